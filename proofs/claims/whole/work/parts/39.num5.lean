/-! NUM: shiftUp -/
theorem q_cntL : ∀ p : Fin 63, ((Int32.ofInt ((p.val : Nat) : Int)).toInt64 &&& 63).toBitVec.smod 64 = BitVec.ofNat 64 p.val := by decide +kernel
theorem q_cntU : ∀ p : Fin 63, ((Int32.ofInt ((p.val : Nat) : Int)).toInt64.toUInt64 &&& Int64.toUInt64 63).toBitVec % 64 = BitVec.ofNat 64 p.val := by decide +kernel
theorem em_mul (x c M : Int) : (x * c) % M = ((x % M) * c) % M := by
  have h := Int.mul_ediv_add_emod x M
  rw [show x * c = (x % M) * c + M * ((x / M) * c) by grind, Int.add_mul_emod_self_left]
theorem q_lshl_eq (x : Int) {p : Nat} (hp : p < 63) : Int64.ofInt x <<< ((Int32.ofInt (p : Int)).toInt64 &&& 63) = Int64.ofInt (x * 2 ^ p) := by
  apply Int64.toBitVec_inj.mp
  have h := q_cntL ⟨p, hp⟩
  simp only at h
  rw [Int64.toBitVec_shiftLeft, h, Int64.toBitVec_ofInt, Int64.toBitVec_ofInt]
  apply BitVec.eq_of_toNat_eq
  rw [BitVec.shiftLeft_eq', BitVec.toNat_ofNat, Nat.mod_eq_of_lt (show p < 2 ^ 64 by omega), BitVec.toNat_shiftLeft, BitVec.toNat_ofInt, BitVec.toNat_ofInt, Nat.shiftLeft_eq]
  have h1 : (x * 2 ^ p) % ((2 ^ 64 : Nat) : Int) = ((x % ((2 ^ 64 : Nat) : Int)) * 2 ^ p) % ((2 ^ 64 : Nat) : Int) := em_mul x (2 ^ p) _
  obtain ⟨m, hm⟩ : ∃ m : Nat, x % ((2 ^ 64 : Nat) : Int) = m := ⟨(x % ((2 ^ 64 : Nat) : Int)).toNat, by omega⟩
  rw [h1, hm, Int.toNat_natCast, show ((m : Int) * 2 ^ p) = ((m * 2 ^ p : Nat) : Int) by simp, ← Int.natCast_emod, Int.toNat_natCast]
theorem q_lushr_eq {x : Int} (h : 0 ≤ x ∧ x < 9223372036854775808) {p : Nat} (hp : p < 63) : ((Int64.ofInt x).toUInt64 >>> ((Int32.ofInt (p : Int)).toInt64.toUInt64 &&& Int64.toUInt64 63)).toInt64 = Int64.ofInt (x / 2 ^ p) := by
  obtain ⟨m, rfl⟩ : ∃ m : Nat, x = m := ⟨x.toNat, by omega⟩
  rw [show ((m : Int) / 2 ^ p) = ((m / 2 ^ p : Nat) : Int) by simp]
  apply Int64.toBitVec_inj.mp
  have hc := q_cntU ⟨p, hp⟩
  simp only at hc
  have e : ((lN m).toUInt64 >>> ((Int32.ofInt (p : Int)).toInt64.toUInt64 &&& Int64.toUInt64 63)).toInt64.toBitVec = (lN m).toBitVec >>> (((Int32.ofInt ((p : Nat) : Int)).toInt64.toUInt64 &&& Int64.toUInt64 63).toBitVec % 64) := UInt64.toBitVec_shiftRight _ _
  refine Eq.trans e ?_
  rw [hc]
  apply BitVec.eq_of_toNat_eq
  have h2 : m / 2 ^ p < 2 ^ 64 := Nat.lt_of_le_of_lt (Nat.div_le_self _ _) (by omega)
  refine Eq.trans ?_ (u_tn h2).symm
  rw [BitVec.ushiftRight_eq', BitVec.toNat_ofNat, Nat.mod_eq_of_lt (show p < 2 ^ 64 by omega), BitVec.toNat_ushiftRight, u_tn (by omega), Nat.shiftRight_eq_div_pow]
theorem q_ior_eq {u v : Int} {p : Nat} (hu : 0 ≤ u ∧ u < 2147483648) (hv : 0 ≤ v) (hp : v < 2 ^ p) (hd : u % 2 ^ p = 0) (hs : u + v < 2147483648) : Int32.ofInt u ||| Int32.ofInt v = Int32.ofInt (u + v) := by
  obtain ⟨m, rfl⟩ : ∃ m : Nat, u = m := ⟨u.toNat, by omega⟩
  obtain ⟨n, rfl⟩ : ∃ n : Nat, v = n := ⟨v.toNat, by omega⟩
  have hp' : n < 2 ^ p := by
    have : ((n : Nat) : Int) < ((2 ^ p : Nat) : Int) := by simpa using hp
    omega
  have hd' : m % 2 ^ p = 0 := by
    have : ((m : Nat) : Int) % ((2 ^ p : Nat) : Int) = 0 := by simpa using hd
    omega
  apply Int32.toBitVec_inj.mp
  rw [Int32.toBitVec_or, Int32.toBitVec_ofInt, Int32.toBitVec_ofInt, Int32.toBitVec_ofInt]
  apply BitVec.eq_of_toNat_eq
  rw [BitVec.toNat_or, BitVec.toNat_ofInt, BitVec.toNat_ofInt, BitVec.toNat_ofInt]
  have e1 : ((m : Int) % ((2 ^ 32 : Nat) : Int)).toNat = m := by omega
  have e2 : ((n : Int) % ((2 ^ 32 : Nat) : Int)).toNat = n := by omega
  have e3 : (((m : Int) + n) % ((2 ^ 32 : Nat) : Int)).toNat = m + n := by omega
  rw [e1, e2, e3]
  have e4 : m = (m / 2 ^ p) <<< p := by
    rw [Nat.shiftLeft_eq]
    have := Nat.div_add_mod m (2 ^ p)
    rw [hd', Nat.mul_comm] at this
    omega
  rw [e4]
  exact (Nat.shiftLeft_add_eq_or_of_lt hp' _).symm
/-- the lowest limb takes something more -/
theorem dv_bump {B : Int} {f f' : Nat → Int} {h : Int} {m : Nat} (h0 : f' 0 = f 0 + h) (hs : ∀ t, 0 < t → f' t = f t) : dv B f' (m + 1) = dv B f (m + 1) + h := by
  rw [dv_shift, dv_shift, h0, dv_congr (g := fun j => f' (j + 1)) (h := fun j => f (j + 1)) (fun k _ => hs (k + 1) (by omega))]
  omega
/-- powers of 2 that divide a limb's base -/
theorem p31 {p : Nat} (hp : p < 31) : ∃ Q : Int, (2 : Int) ^ p * Q = 2147483648 ∧ 0 < Q ∧ 0 < (2 : Int) ^ p := by
  refine ⟨2 ^ (31 - p), ?_, ip_pos (by decide) _, ip_pos (by decide) _⟩
  rw [← Int.pow_add, show p + (31 - p) = 31 by omega]
  decide
theorem sh_split {g P Q : Int} (hPQ : P * Q = 2147483648) (hQ : 0 < Q) (hP : 0 < P) (hg : 0 ≤ g ∧ g < 2147483648) : 0 ≤ g * P / 2147483648 ∧ g * P / 2147483648 < P ∧ g * P % 2147483648 % P = 0 := by
  have h1 := Int.mul_nonneg hg.1 (Int.le_of_lt hP)
  refine ⟨by omega, ?_, ?_⟩
  · apply Int.ediv_lt_of_lt_mul (by decide)
    have := Int.mul_lt_mul_of_pos_right hg.2 hP
    omega
  · rw [← hPQ, Int.emod_emod_of_dvd _ (Int.dvd_mul_right P Q)]
    exact Int.mul_emod_left g P
theorem sh_room {u v P Q : Int} (hPQ : P * Q = 2147483648) (hP : 0 < P) (hu : 0 ≤ u ∧ u < 2147483648) (hd : u % P = 0) (hv : v < P) : u + v < 2147483648 := by
  obtain ⟨k, rfl⟩ : ∃ k, u = P * k := ⟨u / P, by have := Int.mul_ediv_add_emod u P; omega⟩
  have h1 : k < Q := Int.lt_of_mul_lt_mul_left (by rw [hPQ]; exact hu.2) (Int.le_of_lt hP)
  have h2 : P * (k + 1) ≤ P * Q := Int.mul_le_mul_of_nonneg_left (by omega) (Int.le_of_lt hP)
  rw [Int.mul_add, hPQ] at h2
  omega
set_option maxHeartbeats 4000000 in
set_option maxRecDepth 100000 in
theorem c_Nu_shiftUp (l : Launch) (K : pw_K) {L : q_L} {σ : q_S} {a w u p : Nat} {x : Int} (hL : nL L a w) (ha : nV σ a w x) (hx : (x.natAbs : Int) < 2147483648 ^ u) (hw : u + p / 31 + 1 ≤ w) : q_C l K L y_Nu_shiftUp b_Nu_shiftUp 7 none 2 [.ref a, vi (p : Int)] σ (fun v σ' => v = none ∧ nV σ' a w (x * 2 ^ p) ∧ ∀ q, q ≠ a → q ≠ a + 1 → σ' q = σ q) := by
  have hw2 := hL.2
  obtain ⟨hA0, hA1⟩ := hL.1
  obtain ⟨n, hu, ht⟩ := ha
  have hn := (hu.le ht).mpr hx
  have hh := hu
  obtain ⟨h1, h2, h3, h4, h5⟩ := hh
  refine q_start [some (.ref a), some (vi (p : Int)), none, none, none, none, none] (by decide) (Nat.le_of_ble_eq_true rfl) (fun q h => h) ?_
  have loop : ∀ (k : Nat) (σ1 : q_S), k ≤ n → σ1 a = σ a → (∀ q, q ≠ a → q ≠ a + 1 → σ1 q = σ q) → (∀ j, j < k → σ1 (a + 1) j = σ (a + 1) j) → (∀ j, k + p / 31 ≤ j → j ≤ n + p / 31 → 0 ≤ σ1 (a + 1) j ∧ σ1 (a + 1) j < 2147483648) → σ1 (a + 1) (k + p / 31) % 2 ^ (p % 31) = 0 → dv 2147483648 (fun t => σ1 (a + 1) (k + p / 31 + t)) (n - k + 1) = 2 ^ (p % 31) * dv 2147483648 (fun t => σ (a + 1) (k + t)) (n - k) → ∀ i : Int, i = k - 1 →  q_T l K L R_Nu b_Nu_shiftUp 7 none 2 (fun v σ' => v = none ∧ nV σ' a w (x * 2 ^ p) ∧ ∀ q, q ≠ a → q ≠ a + 1 → σ' q = σ q) 63 [some (.ref a), some (vi (p : Int)), some (vi ((p / 31 : Nat) : Int)), some (vi ((p % 31 : Nat) : Int)), some (vi i), none, none] [] σ1 := by
    intro k
    induction k with
    | zero =>
      intro σ1 f1 f2 f3 f4 f5 f6 f7 i hi
      refine q_iload d_Nu_shiftUp_63 rfl ?_
      refine q_if_lt (tgt := 131) (by omega) d_Nu_shiftUp_65 (by decide) (fun c65 => ?_) (fun c65 => absurd c65 (by omega))
      refine q_aload_n d_Nu_shiftUp_131 rfl ?_
      refine q_gr (by assumption) pc_Nu 0 (by decide) w_fl_Nu_9 rfl (by rfl) d_Nu_shiftUp_132 ?_
      refine q_iconst d_Nu_shiftUp_135 rfl ?_
      refine q_iload_n d_Nu_shiftUp_136 rfl ?_
      refine q_iconst d_Nu_shiftUp_137 rfl ?_
      refine q_callS (As := [.ref (a + 1), vi ((0 : Nat) : Int), vi ((p / 31 : Nat) : Int), vi 0]) (c_Ar_fill l K (L := L) (n := w) _ (i := 0) (j := p / 31) 0 hL.1.2 (by omega) (by omega) (by omega)) w_cd_Ar_fill w_ini_Ar w_ml_Nu_83 w_st_Ar_fill hd_Ar_fill rfl (Nat.le_of_ble_eq_true rfl) d_Nu_shiftUp_138 (by decide) (by decide) (fun v σ2 hp => ?_)
      obtain ⟨rfl, rfl⟩ := hp
      refine q_aload_n d_Nu_shiftUp_141 rfl ?_
      refine q_aload_n d_Nu_shiftUp_142 rfl ?_
      refine q_gi (by assumption) pc_Nu 1 (by decide) w_fl_Nu_13 rfl (by rfl) d_Nu_shiftUp_143 ?_
      refine q_iload_n d_Nu_shiftUp_146 rfl ?_
      refine q_iadd d_Nu_shiftUp_147 ?_
      refine q_iconst d_Nu_shiftUp_148 rfl ?_
      refine q_iadd d_Nu_shiftUp_149 ?_
      refine q_pi (by assumption) pc_Nu 1 (by decide) w_fl_Nu_13 rfl rfl rfl rfl (by rfl) d_Nu_shiftUp_150 ?_
      refine q_aload_n d_Nu_shiftUp_153 rfl ?_
      rw [Nat.sub_zero] at f7
      have hU : nU (q_up (q_fill σ1 (a + 1) 0 (p / 31) 0) a 1 (q_fill σ1 (a + 1) 0 (p / 31) 0 a 1 + ((p / 31 : Nat) : Int) + 1)) a w (n + p / 31 + 1) ((x * 2 ^ p).natAbs) (x * 2 ^ p).sign := by
        refine ⟨?_, ?_, by omega, ?_, ?_⟩
        · rw [q_up_self, q_fill_a _ _ (by omega), f2, h1]; omega
        · rw [q_up_ne _ _ (by omega), q_fill_a _ _ (by omega), f2, h2, Int.sign_mul, Int.sign_eq_one_of_pos (ip_pos (by decide) p), Int.mul_one]
        · intro j hj
          rw [q_up_a _ _ (by omega)]
          by_cases hj2 : j < p / 31
          · rw [q_fill_in _ _ (by omega)]; omega
          · rw [q_fill_out _ _ (by omega)]; exact f5 j (by omega) (by omega)
        · rw [q_up_a _ _ (by omega), show n + p / 31 + 1 = p / 31 + (n + 1) by omega, dv_split, dv_zero (fun j hj => q_fill_in _ _ (by omega)), dv_congr (h := fun t => σ1 (a + 1) (0 + p / 31 + t)) (fun t ht => by rw [q_fill_out _ _ (by omega), Nat.zero_add]), f7, dv_congr (h := σ (a + 1)) (fun t ht => by rw [Nat.zero_add]), h5, Int.natAbs_mul, Int.natAbs_pow]
          rw [show ((2147483648 : Int)) = 2 ^ 31 by decide, ← Int.pow_mul]
          have e1 : (2 : Int) ^ p = 2 ^ (31 * (p / 31)) * 2 ^ (p % 31) := by rw [← Int.pow_add, Nat.div_add_mod]
          simp only [Int.natCast_mul, Int.natCast_pow]
          rw [show ((Int.natAbs 2 : Nat) : Int) = 2 from rfl, e1]
          grind
      refine q_callV (As := []) (c_Nu_trim l K hL hU) w_cd_Nu_trim w_ini_Nu w_ml_Nu_64 w_im_Nu_trim w_se_Nu_trim hL.1.1 rfl hd_Nu_trim rfl (Nat.le_of_ble_eq_true rfl) d_Nu_shiftUp_154 (by decide) (by decide) (fun v σ3 hp => ?_)
      obtain ⟨rfl, ⟨n3, k1, k2⟩, k3⟩ := hp
      exact q_vret rfl (⟨rfl, k1.val k2 rfl (fun _ => rfl), fun q h6 h7 => by rw [k3 q h6, q_up_a _ _ h6, q_fill_a _ _ h7]; exact f3 q h6 h7⟩) d_Nu_shiftUp_157
    | succ k ih =>
      intro σ1 f1 f2 f3 f4 f5 f6 f7 i hi
      have e1 : σ1 a 1 = n := by rw [f2]; exact h1
      refine q_iload d_Nu_shiftUp_63 rfl ?_
      refine q_if_lt (tgt := 131) (by omega) d_Nu_shiftUp_65 (by decide) (fun c65 => absurd c65 (by omega)) (fun c65 => ?_)
      have r1 := h4 k (by omega)
      obtain ⟨Q, hPQ, hQ, hP⟩ := p31 (p := p % 31) (Nat.mod_lt p (by decide))
      have r2 := sh_split hPQ hQ hP r1
      have r3 := f5 (k + 1 + p / 31) (Nat.le_refl _) (by omega)
      have r4 := sh_room (v := σ (a + 1) k * 2 ^ (p % 31) / 2147483648) hPQ hP r3 f6 r2.2.1
      have r5 : 0 ≤ σ (a + 1) k * 2 ^ (p % 31) ∧ σ (a + 1) k * 2 ^ (p % 31) < 9223372036854775808 := ⟨Int.mul_nonneg r1.1 (Int.le_of_lt hP), by omega⟩
      have r1 := h4 k (by omega)
      obtain ⟨Q, hPQ, hQ, hP⟩ := p31 (p := p % 31) (Nat.mod_lt p (by decide))
      have r2 := sh_split hPQ hQ hP r1
      have r3 := f5 (k + 1 + p / 31) (Nat.le_refl _) (by omega)
      have r4 := sh_room (v := σ (a + 1) k * 2 ^ (p % 31) / 2147483648) hPQ hP r3 f6 r2.2.1
      have r5 : 0 ≤ σ (a + 1) k * 2 ^ (p % 31) ∧ σ (a + 1) k * 2 ^ (p % 31) < 9223372036854775808 := ⟨Int.mul_nonneg r1.1 (Int.le_of_lt hP), by omega⟩
      refine q_aload_n d_Nu_shiftUp_68 rfl ?_
      refine q_gr (by assumption) pc_Nu 0 (by decide) w_fl_Nu_9 rfl (by rfl) d_Nu_shiftUp_69 ?_
      refine q_iload d_Nu_shiftUp_72 rfl ?_
      refine q_ial (k) (by assumption) (by omega) (by omega) (by omega) d_Nu_shiftUp_74 ?_
      refine q_topi (f4 k (by omega)) ?_
      refine q_i2l (by omega) d_Nu_shiftUp_75 ?_
      refine q_iload_n d_Nu_shiftUp_76 rfl ?_
      refine q_lshl (z := σ (a + 1) k * 2 ^ (p % 31)) (q_lshl_eq _ (by omega)) d_Nu_shiftUp_77 ?_
      refine q_lst_5 d_Nu_shiftUp_78 (by decide) rfl ?_
      refine q_aload_n d_Nu_shiftUp_80 rfl ?_
      refine q_gr (by assumption) pc_Nu 0 (by decide) w_fl_Nu_9 rfl (by rfl) d_Nu_shiftUp_81 ?_
      refine q_iload d_Nu_shiftUp_84 rfl ?_
      refine q_iload_n d_Nu_shiftUp_86 rfl ?_
      refine q_iadd d_Nu_shiftUp_87 ?_
      refine q_iconst d_Nu_shiftUp_88 rfl ?_
      refine q_iadd d_Nu_shiftUp_89 ?_
      refine q_aload_n d_Nu_shiftUp_90 rfl ?_
      refine q_gr (by assumption) pc_Nu 0 (by decide) w_fl_Nu_9 rfl (by rfl) d_Nu_shiftUp_91 ?_
      refine q_iload d_Nu_shiftUp_94 rfl ?_
      refine q_iload_n d_Nu_shiftUp_96 rfl ?_
      refine q_iadd d_Nu_shiftUp_97 ?_
      refine q_iconst d_Nu_shiftUp_98 rfl ?_
      refine q_iadd d_Nu_shiftUp_99 ?_
      refine q_ial (k + 1 + p / 31) (by assumption) (by omega) (by omega) (by omega) d_Nu_shiftUp_100 ?_
      refine q_lload d_Nu_shiftUp_101 rfl ?_
      refine q_bipush d_Nu_shiftUp_103 (by decide) ?_
      refine q_lushr (z := σ (a + 1) k * 2 ^ (p % 31) / 2147483648) (q_lushr31 r5) d_Nu_shiftUp_105 ?_
      refine q_l2i d_Nu_shiftUp_106 ?_
      refine q_ior (z := σ1 (a + 1) (k + 1 + p / 31) + σ (a + 1) k * 2 ^ (p % 31) / 2147483648) (q_ior_eq r3 r2.1 r2.2.1 f6 r4) d_Nu_shiftUp_107 ?_
      refine q_ias (k + 1 + p / 31) (by assumption) (by omega) (by omega) (by omega) d_Nu_shiftUp_108 ?_
      refine q_aload_n d_Nu_shiftUp_109 rfl ?_
      refine q_gr (by assumption) pc_Nu 0 (by decide) w_fl_Nu_9 rfl (by rfl) d_Nu_shiftUp_110 ?_
      refine q_iload d_Nu_shiftUp_113 rfl ?_
      refine q_iload_n d_Nu_shiftUp_115 rfl ?_
      refine q_iadd d_Nu_shiftUp_116 ?_
      refine q_lload d_Nu_shiftUp_117 rfl ?_
      refine q_ldc2 (z := 2147483647) w_kl_Nu_26 (by decide) d_Nu_shiftUp_119 ?_
      refine q_land (z := σ (a + 1) k * 2 ^ (p % 31) % 2147483648) (q_land31 _) d_Nu_shiftUp_122 ?_
      refine q_l2i d_Nu_shiftUp_123 ?_
      refine q_ias (k + p / 31) (by assumption) (by omega) (by omega) (by omega) d_Nu_shiftUp_124 ?_
      refine q_iinc_4 d_Nu_shiftUp_125 (by decide) rfl ?_
      refine q_goto (tgt := 63) d_Nu_shiftUp_128 (by decide) ?_
      refine q_drop_5 ?_
      have hr : ∀ t, t ≠ k + p / 31 → t ≠ k + 1 + p / 31 → q_up (q_up σ1 (a + 1) (k + 1 + p / 31) (σ1 (a + 1) (k + 1 + p / 31) + σ (a + 1) k * 2 ^ (p % 31) / 2147483648)) (a + 1) (k + p / 31) (σ (a + 1) k * 2 ^ (p % 31) % 2147483648) (a + 1) t = σ1 (a + 1) t := fun t h6 h7 => by rw [q_up_k _ _ h6, q_up_k _ _ h7]
      have hr1 : q_up (q_up σ1 (a + 1) (k + 1 + p / 31) (σ1 (a + 1) (k + 1 + p / 31) + σ (a + 1) k * 2 ^ (p % 31) / 2147483648)) (a + 1) (k + p / 31) (σ (a + 1) k * 2 ^ (p % 31) % 2147483648) (a + 1) (k + 1 + p / 31) = σ1 (a + 1) (k + 1 + p / 31) + σ (a + 1) k * 2 ^ (p % 31) / 2147483648 := by rw [q_up_k _ _ (by omega), q_up_self]
      refine ih _ (by omega) (by rw [q_up_a _ _ (by omega), q_up_a _ _ (by omega)]; exact f2) (fun q h6 h7 => by rw [q_up_a _ _ h7, q_up_a _ _ h7]; exact f3 q h6 h7) (fun j hj => by rw [hr j (by omega) (by omega)]; exact f4 j (by omega)) (fun j h6 h7 => ?_) (by rw [q_up_self]; exact r2.2.2) ?_ _ (by omega)
      · by_cases e1 : j = k + p / 31
        · subst e1; rw [q_up_self]; omega
        · by_cases e2 : j = k + 1 + p / 31
          · subst e2; rw [hr1]; omega
          · rw [hr j e1 e2]; exact f5 j (by omega) h7
      · have e0 := dv_low 2147483648 (σ (a + 1)) (show k < n by omega)
        have e5 := dv_low 2147483648 (q_up (q_up σ1 (a + 1) (k + 1 + p / 31) (σ1 (a + 1) (k + 1 + p / 31) + σ (a + 1) k * 2 ^ (p % 31) / 2147483648)) (a + 1) (k + p / 31) (σ (a + 1) k * 2 ^ (p % 31) % 2147483648) (a + 1)) (show k + p / 31 < n + p / 31 + 1 by omega)
        rw [show n + p / 31 + 1 - (k + p / 31) = n - k + 1 by omega, show n + p / 31 + 1 - (k + p / 31 + 1) = n - (k + 1) + 1 by omega, q_up_self] at e5
        rw [e0, e5, dv_bump (f := fun t => σ1 (a + 1) (k + 1 + p / 31 + t)) (h := σ (a + 1) k * 2 ^ (p % 31) / 2147483648) (by show q_up (q_up σ1 (a + 1) (k + 1 + p / 31) (σ1 (a + 1) (k + 1 + p / 31) + σ (a + 1) k * 2 ^ (p % 31) / 2147483648)) (a + 1) (k + p / 31) (σ (a + 1) k * 2 ^ (p % 31) % 2147483648) (a + 1) (k + p / 31 + 1 + 0) = σ1 (a + 1) (k + 1 + p / 31 + 0) + _; rw [show k + p / 31 + 1 + 0 = k + 1 + p / 31 by omega, hr1]; rfl) (fun t ht => by show q_up (q_up σ1 (a + 1) (k + 1 + p / 31) (σ1 (a + 1) (k + 1 + p / 31) + σ (a + 1) k * 2 ^ (p % 31) / 2147483648)) (a + 1) (k + p / 31) (σ (a + 1) k * 2 ^ (p % 31) % 2147483648) (a + 1) (k + p / 31 + 1 + t) = σ1 (a + 1) (k + 1 + p / 31 + t); rw [show k + p / 31 + 1 + t = k + 1 + p / 31 + t by omega]; exact hr _ (by omega) (by omega)), f7]
        have := Int.mul_ediv_add_emod (σ (a + 1) k * 2 ^ (p % 31)) 2147483648
        grind
  refine q_aload_n d_Nu_shiftUp_0 rfl ?_
  refine q_gi (by assumption) pc_Nu 1 (by decide) w_fl_Nu_13 rfl (by rfl) d_Nu_shiftUp_1 ?_
  refine q_if_eq (tgt := 11) (by omega) d_Nu_shiftUp_4 (by decide) (fun ca => ?_) (fun ca => ?_)
  · exact q_vret rfl (⟨rfl, by rw [show x = 0 by have := (hu.zero ht).mp (by omega); omega, Int.zero_mul]; exact ⟨n, by rw [show x = 0 by have := (hu.zero ht).mp (by omega); omega] at hu; exact hu, ht⟩, fun q _ _ => rfl⟩) d_Nu_shiftUp_11
  · refine q_iload_n d_Nu_shiftUp_7 rfl ?_
    refine q_if_gt (tgt := 12) (by omega) d_Nu_shiftUp_8 (by decide) (fun cb => ?_) (fun cb => ?_)
    · refine q_iload_n d_Nu_shiftUp_12 rfl ?_
      refine q_bipush d_Nu_shiftUp_13 (by decide) ?_
      refine q_idiv (by omega) (by omega) (by omega) d_Nu_shiftUp_15 ?_
      refine q_topi (show _ = ((p / 31 : Nat) : Int) from rfl) ?_
      refine q_ist_n_2 d_Nu_shiftUp_16 (by decide) rfl ?_
      refine q_iload_n d_Nu_shiftUp_17 rfl ?_
      refine q_bipush d_Nu_shiftUp_18 (by decide) ?_
      refine q_irem (by omega) (by omega) (by omega) d_Nu_shiftUp_20 ?_
      refine q_topi (show _ = ((p % 31 : Nat) : Int) from rfl) ?_
      refine q_ist_n_3 d_Nu_shiftUp_21 (by decide) rfl ?_
      refine q_aload_n d_Nu_shiftUp_22 rfl ?_
      refine q_gi (by assumption) pc_Nu 1 (by decide) w_fl_Nu_13 rfl (by rfl) d_Nu_shiftUp_23 ?_
      refine q_iload_n d_Nu_shiftUp_26 rfl ?_
      refine q_iadd d_Nu_shiftUp_27 ?_
      refine q_iconst d_Nu_shiftUp_28 rfl ?_
      refine q_iadd d_Nu_shiftUp_29 ?_
      refine q_aload_n d_Nu_shiftUp_30 rfl ?_
      refine q_gr (by assumption) pc_Nu 0 (by decide) w_fl_Nu_9 rfl (by rfl) d_Nu_shiftUp_31 ?_
      refine q_len 0 rfl (by assumption) d_Nu_shiftUp_34 ?_
      refine q_icmp_le (tgt := 43) (by omega) (by omega) d_Nu_shiftUp_35 (by decide) (fun c35 => ?_) (fun c35 => absurd c35 (by omega))
      refine q_aload_n d_Nu_shiftUp_43 rfl ?_
      refine q_gr (by assumption) pc_Nu 0 (by decide) w_fl_Nu_9 rfl (by rfl) d_Nu_shiftUp_44 ?_
      refine q_aload_n d_Nu_shiftUp_47 rfl ?_
      refine q_gi (by assumption) pc_Nu 1 (by decide) w_fl_Nu_13 rfl (by rfl) d_Nu_shiftUp_48 ?_
      refine q_iload_n d_Nu_shiftUp_51 rfl ?_
      refine q_iadd d_Nu_shiftUp_52 ?_
      refine q_iconst d_Nu_shiftUp_53 rfl ?_
      refine q_ias (n + p / 31) (by assumption) (by omega) (by omega) (by omega) d_Nu_shiftUp_54 ?_
      refine q_aload_n d_Nu_shiftUp_55 rfl ?_
      refine q_gi (by assumption) pc_Nu 1 (by decide) w_fl_Nu_13 rfl (by rfl) d_Nu_shiftUp_56 ?_
      refine q_iconst d_Nu_shiftUp_59 rfl ?_
      refine q_isub d_Nu_shiftUp_60 ?_
      refine q_ist_4 d_Nu_shiftUp_61 (by decide) rfl ?_
      refine loop n _ (Nat.le_refl n) (q_up_a _ _ (by omega)) (fun q h6 h7 => q_up_a _ _ h7) (fun j hj => q_up_k _ _ (by omega)) (fun j h6 h7 => by rw [show j = n + p / 31 by omega, q_up_self]; omega) (by rw [q_up_self]; simp) ?_ _ (by rw [q_up_ne _ _ (by omega)]; omega)
      rw [Nat.sub_self]
      simp [dv, q_up]
    · exact q_vret rfl (⟨rfl, by obtain rfl : p = 0 := (by omega); rw [Int.pow_zero, Int.mul_one]; exact ⟨n, hu, ht⟩, fun q _ _ => rfl⟩) d_Nu_shiftUp_11
