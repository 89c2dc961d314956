/-! NUM: times, divideSmall, step -/
theorem q_lshl31 (x : Int) : Int64.ofInt x <<< ((Int32.ofInt 31).toInt64 &&& 63) = Int64.ofInt (x * 2147483648) := q_lshl_eq x (p := 31) (by decide)
theorem q_lor_eq {u v : Int} {p : Nat} (hu : 0 ≤ u) (hv : 0 ≤ v) (hp : v < 2 ^ p) (hd : u % 2 ^ p = 0) (hs : u + v < 9223372036854775808) : Int64.ofInt u ||| Int64.ofInt v = Int64.ofInt (u + v) := by
  obtain ⟨m, rfl⟩ : ∃ m : Nat, u = m := ⟨u.toNat, by omega⟩
  obtain ⟨n, rfl⟩ : ∃ n : Nat, v = n := ⟨v.toNat, by omega⟩
  have hp' : n < 2 ^ p := by
    have : ((n : Nat) : Int) < ((2 ^ p : Nat) : Int) := by simpa using hp
    omega
  have hd' : m % 2 ^ p = 0 := by
    have : ((m : Nat) : Int) % ((2 ^ p : Nat) : Int) = 0 := by simpa using hd
    omega
  apply Int64.toBitVec_inj.mp
  rw [Int64.toBitVec_or, Int64.toBitVec_ofInt, Int64.toBitVec_ofInt, Int64.toBitVec_ofInt]
  apply BitVec.eq_of_toNat_eq
  rw [BitVec.toNat_or, BitVec.toNat_ofInt, BitVec.toNat_ofInt, BitVec.toNat_ofInt]
  have e1 : ((m : Int) % ((2 ^ 64 : Nat) : Int)).toNat = m := by omega
  have e2 : ((n : Int) % ((2 ^ 64 : Nat) : Int)).toNat = n := by omega
  have e3 : (((m : Int) + n) % ((2 ^ 64 : Nat) : Int)).toNat = m + n := by omega
  rw [e1, e2, e3]
  have e4 : m = (m / 2 ^ p) <<< p := by
    rw [Nat.shiftLeft_eq]
    have := Nat.div_add_mod m (2 ^ p)
    rw [hd', Nat.mul_comm] at this
    omega
  rw [e4]
  exact (Nat.shiftLeft_add_eq_or_of_lt hp' _).symm
theorem q_lor31 {u v : Int} (hu : 0 ≤ u) (hv : 0 ≤ v ∧ v < 2147483648) (hs : u * 2147483648 + v < 9223372036854775808) : Int64.ofInt (u * 2147483648) ||| Int64.ofInt v = Int64.ofInt (u * 2147483648 + v) := q_lor_eq (p := 31) (by omega) hv.1 (by have := hv.2; omega) (by omega) hs
/-- what comes of a quotient by a number above 0 -/
theorem dm_uniq {A Q r s : Int} (h : Q * s + r = A) (h0 : 0 ≤ r) (h1 : r < s) : Q = A / s ∧ r = A % s := by
  subst h
  have hs : s ≠ 0 := by omega
  constructor
  · rw [Int.add_comm, Int.add_mul_ediv_right _ _ hs, Int.ediv_eq_zero_of_lt h0 h1]; omega
  · rw [Int.add_comm, Int.add_mul_emod_self_right, Int.emod_eq_of_lt h0 h1]
set_option maxHeartbeats 4000000 in
set_option maxRecDepth 100000 in
theorem c_Nu_times (l : Launch) (K : pw_K) {L : q_L} {σ : q_S} {a w : Nat} {x s : Int} (hL : nL L a w) (ha : nV σ a w x) (hs : 0 ≤ s ∧ s < 2147483648) (hw0 : 0 < w) (hx : (x.natAbs : Int) < 2147483648 ^ (w - 1)) : q_C l K L y_Nu_times b_Nu_times 7 none 1 [.ref a, vi s] σ (fun v σ' => v = none ∧ nV σ' a w (x * s) ∧ ∀ q, q ≠ a → q ≠ a + 1 → σ' q = σ q) := by
  have hw := hL.2
  obtain ⟨hA, hB⟩ := hL.1
  obtain ⟨n, hu, ht0⟩ := ha
  have hn := (hu.le ht0).mpr hx
  obtain ⟨h1, h2, h3, h4, h5⟩ := hu
  refine q_start [some (.ref a), some (vi s), none, none, none, none, none] (by decide) (Nat.le_of_ble_eq_true rfl) (fun q h => h) ?_
  have loop : ∀ (d k : Nat), k + d = n → ∀ (σ1 : q_S) (c : Int), σ1 a = σ a → (∀ q, q ≠ a → q ≠ a + 1 → σ1 q = σ q) → (∀ j, k ≤ j → σ1 (a + 1) j = σ (a + 1) j) → (∀ j, j < k → 0 ≤ σ1 (a + 1) j ∧ σ1 (a + 1) j < 2147483648) → dv 2147483648 (σ1 (a + 1)) k + c * 2147483648 ^ k = s * dv 2147483648 (σ (a + 1)) k → (0 ≤ c ∧ c ≤ s) → ∀ t : Int, t = k →  q_T l K L R_Nu b_Nu_times 7 none 1 (fun v σ' => v = none ∧ nV σ' a w (x * s) ∧ ∀ q, q ≠ a → q ≠ a + 1 → σ' q = σ q) 22 [some (.ref a), some (vi s), some (vl c), none, some (vi t), none, none] [] σ1 := by
    intro d
    induction d with
    | zero =>
      intro k hk σ1 c f1 f2 f3 f4 f5 f6 t ht
      refine q_iload d_Nu_times_22 rfl ?_
      refine q_aload_n d_Nu_times_24 rfl ?_
      refine q_gi (by assumption) pc_Nu 1 (by decide) w_fl_Nu_13 rfl (by rfl) d_Nu_times_25 ?_
      refine q_topi (show _ = (n : Int) by rw [f1]; exact h1) ?_
      refine q_icmp_ge (tgt := 72) (by omega) (by omega) d_Nu_times_28 (by decide) (fun c28 => ?_) (fun c28 => absurd c28 (by omega))
      refine q_aload_n d_Nu_times_72 rfl ?_
      refine q_gr (by assumption) pc_Nu 0 (by decide) w_fl_Nu_9 rfl (by rfl) d_Nu_times_73 ?_
      refine q_aload_n d_Nu_times_76 rfl ?_
      refine q_gi (by assumption) pc_Nu 1 (by decide) w_fl_Nu_13 rfl (by rfl) d_Nu_times_77 ?_
      refine q_topi (show _ = (n : Int) by rw [f1]; exact h1) ?_
      refine q_lload_n d_Nu_times_80 rfl ?_
      refine q_l2i d_Nu_times_81 ?_
      refine q_ias (n) (by assumption) (by omega) (by omega) (by omega) d_Nu_times_82 ?_
      obtain rfl : k = n := by omega
      refine q_aload_n d_Nu_times_83 rfl ?_
      refine q_dup d_Nu_times_84 rfl ?_
      refine q_gi (by assumption) pc_Nu 1 (by decide) w_fl_Nu_13 rfl (by rfl) d_Nu_times_85 ?_
      refine q_topi (show _ = (k : Int) by rw [q_up_a _ _ (by omega), f1]; exact h1) ?_
      refine q_iconst d_Nu_times_88 rfl ?_
      refine q_iadd d_Nu_times_89 ?_
      refine q_pi (by assumption) pc_Nu 1 (by decide) w_fl_Nu_13 rfl rfl rfl rfl (by rfl) d_Nu_times_90 ?_
      refine q_aload_n d_Nu_times_93 rfl ?_
      have hU : nU (q_up (q_up σ1 (a + 1) k c) a 1 ((k : Int) + 1)) a w (k + 1) ((x * s).natAbs) x.sign := by
        refine ⟨by rw [q_up_self]; omega, by rw [q_up_ne _ _ (by omega), q_up_a _ _ (by omega), f1]; exact h2, by omega, fun j hj => ?_, ?_⟩
        · rw [q_up_a _ _ (by omega)]
          exact if e : j = k then by subst e; rw [q_up_self]; omega else by rw [q_up_k _ _ e]; exact f4 j (by omega)
        · rw [q_up_a _ _ (by omega), dv_s, dv_congr (h := σ1 (a + 1)) (fun j hj => q_up_k _ _ (by omega)), q_up_self, f5, h5, Int.natAbs_mul, Int.natCast_mul, Int.mul_comm, show (s.natAbs : Int) = s by omega]
      refine q_callV (As := []) (c_Nu_trim l K hL (s := x.sign) hU) w_cd_Nu_trim w_ini_Nu w_ml_Nu_64 w_im_Nu_trim w_se_Nu_trim hL.1.1 rfl hd_Nu_trim rfl (Nat.le_of_ble_eq_true rfl) d_Nu_times_94 (by decide) (by decide) (fun v σ2 hp => ?_)
      obtain ⟨rfl, ⟨n2, k1, k2⟩, k3⟩ := hp
      exact q_vret rfl (⟨rfl, k1.val k2 rfl (fun h => by rw [Int.sign_mul, Int.sign_eq_one_of_pos (show 0 < s by rcases Int.lt_or_le 0 s with g | g; exact g; exact absurd (show x * s = 0 by rw [show s = 0 by omega]; simp) h), Int.mul_one]), fun q h6 h7 => by rw [k3 q h6, q_up_a _ _ h6, q_up_a _ _ h7]; exact f2 q h6 h7⟩) d_Nu_times_97
    | succ d ih =>
      intro k hk σ1 c f1 f2 f3 f4 f5 f6 t ht
      refine q_iload d_Nu_times_22 rfl ?_
      refine q_aload_n d_Nu_times_24 rfl ?_
      refine q_gi (by assumption) pc_Nu 1 (by decide) w_fl_Nu_13 rfl (by rfl) d_Nu_times_25 ?_
      refine q_topi (show _ = (n : Int) by rw [f1]; exact h1) ?_
      refine q_icmp_ge (tgt := 72) (by omega) (by omega) d_Nu_times_28 (by decide) (fun c28 => absurd c28 (by omega)) (fun c28 => ?_)
      have r1 := h4 k (by omega)
      have r2 : 0 ≤ σ (a + 1) k * s ∧ σ (a + 1) k * s ≤ 2147483647 * s := ⟨Int.mul_nonneg r1.1 hs.1, Int.mul_le_mul_of_nonneg_right (by omega) hs.1⟩
      refine q_aload_n d_Nu_times_31 rfl ?_
      refine q_gr (by assumption) pc_Nu 0 (by decide) w_fl_Nu_9 rfl (by rfl) d_Nu_times_32 ?_
      refine q_iload d_Nu_times_35 rfl ?_
      refine q_ial (k) (by assumption) (by omega) (by omega) (by omega) d_Nu_times_37 ?_
      refine q_topi (f3 k (Nat.le_refl k)) ?_
      refine q_i2l (by omega) d_Nu_times_38 ?_
      refine q_iload_n d_Nu_times_39 rfl ?_
      refine q_i2l (by omega) d_Nu_times_40 ?_
      refine q_lmul d_Nu_times_41 ?_
      refine q_lload_n d_Nu_times_42 rfl ?_
      refine q_ladd d_Nu_times_43 ?_
      refine q_lst_5 d_Nu_times_44 (by decide) rfl ?_
      refine q_aload_n d_Nu_times_46 rfl ?_
      refine q_gr (by assumption) pc_Nu 0 (by decide) w_fl_Nu_9 rfl (by rfl) d_Nu_times_47 ?_
      refine q_iload d_Nu_times_50 rfl ?_
      refine q_lload d_Nu_times_52 rfl ?_
      refine q_ldc2 (z := 2147483647) w_kl_Nu_26 (by decide) d_Nu_times_54 ?_
      refine q_land (z := (σ (a + 1) k * s + c) % 2147483648) (q_land31 _) d_Nu_times_57 ?_
      refine q_l2i d_Nu_times_58 ?_
      refine q_ias (k) (by assumption) (by omega) (by omega) (by omega) d_Nu_times_59 ?_
      refine q_lload d_Nu_times_60 rfl ?_
      refine q_bipush d_Nu_times_62 (by decide) ?_
      refine q_lushr (z := (σ (a + 1) k * s + c) / 2147483648) (q_lushr31 (by omega)) d_Nu_times_64 ?_
      refine q_lst_n_2 d_Nu_times_65 (by decide) rfl ?_
      refine q_iinc_4 d_Nu_times_66 (by decide) rfl ?_
      refine q_goto (tgt := 22) d_Nu_times_69 (by decide) ?_
      refine q_drop_5 ?_
      exact ih (k + 1) (by omega) _ _ (by rw [q_up_a _ _ (by omega)]; exact f1) (fun q h6 h7 => by rw [q_up_a _ _ h7]; exact f2 q h6 h7) (fun j hj => by rw [q_up_k _ _ (by omega)]; exact f3 j (by omega)) (fun j hj => if e : j = k then by subst e; rw [q_up_self]; omega else by rw [q_up_k _ _ e]; exact f4 j (by omega)) (by rw [dv_step (s := σ (a + 1) k * s) f5 (fun j hj => q_up_k _ _ (by omega)) (by rw [q_up_self]; omega), dv_s]; grind) (by omega) _ (by omega)
  refine q_aload_n d_Nu_times_0 rfl ?_
  refine q_gi (by assumption) pc_Nu 1 (by decide) w_fl_Nu_13 rfl (by rfl) d_Nu_times_1 ?_
  refine q_aload_n d_Nu_times_4 rfl ?_
  refine q_gr (by assumption) pc_Nu 0 (by decide) w_fl_Nu_9 rfl (by rfl) d_Nu_times_5 ?_
  refine q_len 0 rfl (by assumption) d_Nu_times_8 ?_
  refine q_icmp_lt (tgt := 17) (by omega) (by omega) d_Nu_times_9 (by decide) (fun c9 => ?_) (fun c9 => absurd c9 (by omega))
  refine q_lconst (z := 0) d_Nu_times_17 (by decide) ?_
  refine q_lst_n_2 d_Nu_times_18 (by decide) rfl ?_
  refine q_iconst d_Nu_times_19 rfl ?_
  refine q_ist_4 d_Nu_times_20 (by decide) rfl ?_
  exact loop n 0 (by omega) σ 0 rfl (fun q _ _ => rfl) (fun j _ => rfl) (fun j hj => by omega) (by simp [dv]) (by omega) _ rfl
theorem dm_abs {x s : Int} (hs : 0 < s) : (x.natAbs : Int) / s = ((x.sign * ((x.natAbs : Int) / s)).natAbs : Int) := by
  have h0 := Int.ediv_nonneg (show (0 : Int) ≤ x.natAbs by omega) (Int.le_of_lt hs)
  have h1 := sg3 x
  rcases h1 with h | h | h
  · rw [h.2]; omega
  · rw [h.2, h.1]; simp
  · rw [h.2]; omega
theorem dm_sgn {x s : Int} (hs : 0 < s) (h : x.sign * ((x.natAbs : Int) / s) ≠ 0) : x.sign = (x.sign * ((x.natAbs : Int) / s)).sign := by
  have h0 := Int.ediv_nonneg (show (0 : Int) ≤ x.natAbs by omega) (Int.le_of_lt hs)
  have h2 : 0 < (x.natAbs : Int) / s := by
    rcases Int.lt_or_le 0 ((x.natAbs : Int) / s) with g | g
    · exact g
    · exact absurd (by rw [show (x.natAbs : Int) / s = 0 by omega]; simp) h
  rw [Int.sign_mul, Int.sign_eq_one_of_pos h2, Int.mul_one, Int.sign_sign]
set_option maxHeartbeats 4000000 in
set_option maxRecDepth 100000 in
theorem c_Nu_divideSmall (l : Launch) (K : pw_K) {L : q_L} {σ : q_S} {a w : Nat} {x s : Int} (hL : nL L a w) (ha : nV σ a w x) (hs : 0 < s ∧ s < 2147483648) : q_C l K L y_Nu_divideSmall b_Nu_divideSmall 7 (some .int) 1 [.ref a, vi s] σ (fun v σ' => v = some (vi ((x.natAbs : Int) % s)) ∧ nV σ' a w (x.sign * ((x.natAbs : Int) / s)) ∧ ∀ q, q ≠ a → q ≠ a + 1 → σ' q = σ q) := by
  have hw := hL.2
  obtain ⟨hA, hB⟩ := hL.1
  obtain ⟨n, hu, ht0⟩ := ha
  obtain ⟨h1, h2, h3, h4, h5⟩ := hu
  refine q_start [some (.ref a), some (vi s), none, none, none, none, none] (by decide) (Nat.le_of_ble_eq_true rfl) (fun q h => h) ?_
  have loop : ∀ (k : Nat) (σ1 : q_S) (c : Int), k ≤ n → σ1 a = σ a → (∀ q, q ≠ a → q ≠ a + 1 → σ1 q = σ q) → (∀ j, j < k → σ1 (a + 1) j = σ (a + 1) j) → (∀ j, j < n → 0 ≤ σ1 (a + 1) j ∧ σ1 (a + 1) j < 2147483648) → dv 2147483648 (fun j => σ1 (a + 1) (k + j)) (n - k) * s + c = dv 2147483648 (fun j => σ (a + 1) (k + j)) (n - k) → (0 ≤ c ∧ c < s) → ∀ t : Int, t = (k : Int) - 1 →  q_T l K L R_Nu b_Nu_divideSmall 7 (some .int) 1 (fun v σ' => v = some (vi ((x.natAbs : Int) % s)) ∧ nV σ' a w (x.sign * ((x.natAbs : Int) / s)) ∧ ∀ q, q ≠ a → q ≠ a + 1 → σ' q = σ q) 16 [some (.ref a), some (vi s), some (vl c), none, some (vi t), none, none] [] σ1 := by
    intro k
    induction k with
    | zero =>
      intro σ1 c f0 f1 f2 f3 f4 f5 f6 t ht
      refine q_iload d_Nu_divideSmall_16 rfl ?_
      refine q_if_lt (tgt := 61) (by omega) d_Nu_divideSmall_18 (by decide) (fun c18 => ?_) (fun c18 => absurd c18 (by omega))
      refine q_aload_n d_Nu_divideSmall_61 rfl ?_
      rw [dv_win0, dv_win0, h5] at f5
      obtain ⟨q1, q2⟩ := dm_uniq f5 f6.1 f6.2
      have hU : nU σ1 a w n ((x.natAbs : Int) / s) x.sign := ⟨by rw [f1]; exact h1, by rw [f1]; exact h2, h3, f4, q1⟩
      refine q_callV (As := []) (c_Nu_trim l K hL hU) w_cd_Nu_trim w_ini_Nu w_ml_Nu_64 w_im_Nu_trim w_se_Nu_trim hL.1.1 rfl hd_Nu_trim rfl (Nat.le_of_ble_eq_true rfl) d_Nu_divideSmall_62 (by decide) (by decide) (fun v σ2 hp => ?_)
      obtain ⟨rfl, ⟨n2, k1, k2⟩, k3⟩ := hp
      refine q_lload_n d_Nu_divideSmall_65 rfl ?_
      refine q_l2i d_Nu_divideSmall_66 ?_
      exact q_iret rfl (⟨by rw [q2], k1.val k2 (dm_abs hs.1) (fun h => dm_sgn hs.1 h), fun q h6 h7 => by rw [k3 q h6]; exact f2 q h6 h7⟩) d_Nu_divideSmall_67
    | succ k ih =>
      intro σ1 c f0 f1 f2 f3 f4 f5 f6 t ht
      refine q_iload d_Nu_divideSmall_16 rfl ?_
      refine q_if_lt (tgt := 61) (by omega) d_Nu_divideSmall_18 (by decide) (fun c18 => absurd c18 (by omega)) (fun c18 => ?_)
      have r1 := h4 k (by omega)
      have r2 : 0 ≤ c * 2147483648 + σ (a + 1) k ∧ c * 2147483648 + σ (a + 1) k < s * 2147483648 := by omega
      have r3 : (c * 2147483648 + σ (a + 1) k) / s < 2147483648 := Int.ediv_lt_of_lt_mul (by omega) (by omega)
      have r4 : 0 ≤ (c * 2147483648 + σ (a + 1) k) / s := Int.ediv_nonneg r2.1 (by omega)
      have r5 := Int.emod_nonneg (c * 2147483648 + σ (a + 1) k) (show s ≠ 0 by omega)
      have r6 := Int.emod_lt_of_pos (c * 2147483648 + σ (a + 1) k) (show 0 < s by omega)
      refine q_lload_n d_Nu_divideSmall_21 rfl ?_
      refine q_bipush d_Nu_divideSmall_22 (by decide) ?_
      refine q_lshl (z := c * 2147483648) (q_lshl31 _) d_Nu_divideSmall_24 ?_
      refine q_aload_n d_Nu_divideSmall_25 rfl ?_
      refine q_gr (by assumption) pc_Nu 0 (by decide) w_fl_Nu_9 rfl (by rfl) d_Nu_divideSmall_26 ?_
      refine q_iload d_Nu_divideSmall_29 rfl ?_
      refine q_ial (k) (by assumption) (by omega) (by omega) (by omega) d_Nu_divideSmall_31 ?_
      refine q_topi (f3 k (by omega)) ?_
      refine q_i2l (by omega) d_Nu_divideSmall_32 ?_
      refine q_lor (z := c * 2147483648 + σ (a + 1) k) (q_lor31 f6.1 r1 (by omega)) d_Nu_divideSmall_33 ?_
      refine q_lst_5 d_Nu_divideSmall_34 (by decide) rfl ?_
      refine q_aload_n d_Nu_divideSmall_36 rfl ?_
      refine q_gr (by assumption) pc_Nu 0 (by decide) w_fl_Nu_9 rfl (by rfl) d_Nu_divideSmall_37 ?_
      refine q_iload d_Nu_divideSmall_40 rfl ?_
      refine q_lload d_Nu_divideSmall_42 rfl ?_
      refine q_iload_n d_Nu_divideSmall_44 rfl ?_
      refine q_i2l (by omega) d_Nu_divideSmall_45 ?_
      refine q_ldiv (by omega) (by omega) (by omega) d_Nu_divideSmall_46 ?_
      refine q_topl (show _ = (c * 2147483648 + σ (a + 1) k) / s from Int.tdiv_eq_ediv_of_nonneg r2.1) ?_
      refine q_l2i d_Nu_divideSmall_47 ?_
      refine q_ias (k) (by assumption) (by omega) (by omega) (by omega) d_Nu_divideSmall_48 ?_
      refine q_lload d_Nu_divideSmall_49 rfl ?_
      refine q_iload_n d_Nu_divideSmall_51 rfl ?_
      refine q_i2l (by omega) d_Nu_divideSmall_52 ?_
      refine q_lrem (by omega) (by omega) (by omega) d_Nu_divideSmall_53 ?_
      refine q_topl (show _ = (c * 2147483648 + σ (a + 1) k) % s from Int.tmod_eq_emod_of_nonneg r2.1) ?_
      refine q_lst_n_2 d_Nu_divideSmall_54 (by decide) rfl ?_
      refine q_iinc_4 d_Nu_divideSmall_55 (by decide) rfl ?_
      refine q_goto (tgt := 16) d_Nu_divideSmall_58 (by decide) ?_
      refine q_drop_5 ?_
      refine ih _ _ (by omega) (by rw [q_up_a _ _ (by omega)]; exact f1) (fun q h6 h7 => by rw [q_up_a _ _ h7]; exact f2 q h6 h7) (fun j hj => by rw [q_up_k _ _ (by omega)]; exact f3 j (by omega)) (fun j hj => if e : j = k then by subst e; rw [q_up_self]; omega else by rw [q_up_k _ _ e]; exact f4 j hj) ?_ ⟨r5, r6⟩ _ (by omega)
      have e1 := dv_low 2147483648 (q_up σ1 (a + 1) k ((c * 2147483648 + σ (a + 1) k) / s) (a + 1)) (show k < n by omega)
      have e2 := dv_low 2147483648 (σ (a + 1)) (show k < n by omega)
      rw [q_up_self, dv_congr (h := fun j => σ1 (a + 1) (k + 1 + j)) (fun j hj => q_up_k _ _ (by omega))] at e1
      rw [e1, e2, ← f5]
      have e3 := Int.mul_ediv_add_emod (c * 2147483648 + σ (a + 1) k) s
      grind
  refine q_iload_n d_Nu_divideSmall_0 rfl ?_
  refine q_if_gt (tgt := 6) (by omega) d_Nu_divideSmall_1 (by decide) (fun c1 => ?_) (fun c1 => absurd c1 (by omega))
  refine q_lconst (z := 0) d_Nu_divideSmall_6 (by decide) ?_
  refine q_lst_n_2 d_Nu_divideSmall_7 (by decide) rfl ?_
  refine q_aload_n d_Nu_divideSmall_8 rfl ?_
  refine q_gi (by assumption) pc_Nu 1 (by decide) w_fl_Nu_13 rfl (by rfl) d_Nu_divideSmall_9 ?_
  refine q_iconst d_Nu_divideSmall_12 rfl ?_
  refine q_isub d_Nu_divideSmall_13 ?_
  refine q_ist_4 d_Nu_divideSmall_14 (by decide) rfl ?_
  exact loop n σ 0 (Nat.le_refl n) rfl (fun q _ _ => rfl) (fun j _ => rfl) h4 (by rw [Nat.sub_self]; simp [dv]) (by omega) _ (by rw [h1])
set_option maxHeartbeats 4000000 in
set_option maxRecDepth 100000 in
theorem st_rest (l : Launch) (K : pw_K) {L : q_L} {σ : q_S} {a w n : Nat} {x b up de tg : Int} (hL : nL L a w) (hn : n < w) (h1 : σ a 1 = n) (h2 : σ a 2 = x.sign) (h3 : n ≤ w) (h4 : ∀ k, k < n → 0 ≤ σ (a + 1) k ∧ σ (a + 1) k < 2147483648) (h5 : dv 2147483648 (σ (a + 1)) n = x.natAbs) (hud : (up = 1 ∧ de = 1 ∧ tg = 2147483647) ∨ (up = 0 ∧ de = -1 ∧ tg = 0)) (hde : de = 1 ∨ (de = -1 ∧ (x.natAbs : Int) ≥ 1)) (hab : ((x + b).natAbs : Int) = x.natAbs + de) (hsg : hid (x + b ≠ 0 → (x + b).sign = x.sign)) : q_T l K L R_Nu b_Nu_step 5 none 3 (fun v σ' => v = none ∧ nV σ' a w (x + b) ∧ ∀ q, q ≠ a → q ≠ a + 1 → σ' q = σ q) 33 [some (.ref a), some (vi b), some (vi up), some (vi 1), some (vi 0)] [] σ := by
  have hw := hL.2
  obtain ⟨hA, hB⟩ := hL.1
  have hur : up = 0 ∨ up = 1 := by omega
  have hdr : de = 1 ∨ de = -1 := by omega
  have hde1 : hid (¬ up = 0 → de = 1) := fun h => by omega
  have hfin : ∀ (k : Nat) (mo : Int), (k = n ∨ mo = 0) → ∀ (σ1 : q_S), k ≤ n → σ1 a = σ a → (∀ q, q ≠ a → q ≠ a + 1 → σ1 q = σ q) → (∀ j, k ≤ j → σ1 (a + 1) j = σ (a + 1) j) → (∀ j, j < k → 0 ≤ σ1 (a + 1) j ∧ σ1 (a + 1) j < 2147483648) → dv 2147483648 (σ1 (a + 1)) k + (de * mo) * 2147483648 ^ k = dv 2147483648 (σ (a + 1)) k + de → (mo = 0 ∨ mo = 1) → ∀ t : Int, t = k →  q_T l K L R_Nu b_Nu_step 5 none 3 (fun v σ' => v = none ∧ nV σ' a w (x + b) ∧ ∀ q, q ≠ a → q ≠ a + 1 → σ' q = σ q) 105 [some (.ref a), some (vi b), some (vi up), some (vi mo), some (vi t)] [] σ1 := by
    intro k mo hkn σ1 f0 f1 f2 f3 f4 f5 f6 t ht
    have hdg : ∀ j, j < n → 0 ≤ σ1 (a + 1) j ∧ σ1 (a + 1) j < 2147483648 := fun j hj => if e : j < k then f4 j e else by rw [f3 j (by omega)]; exact h4 j hj
    have hsp : dv 2147483648 (σ1 (a + 1)) n = dv 2147483648 (σ1 (a + 1)) k + 2147483648 ^ k * dv 2147483648 (fun j => σ (a + 1) (k + j)) (n - k) := by
      have := dv_split 2147483648 (σ1 (a + 1)) k (n - k)
      rw [show k + (n - k) = n by omega, dv_congr (g := fun j => σ1 (a + 1) (k + j)) (h := fun j => σ (a + 1) (k + j)) (fun j hj => f3 _ (by omega))] at this
      exact this
    have hsp2 := dv_split 2147483648 (σ (a + 1)) k (n - k)
    rw [show k + (n - k) = n by omega, h5] at hsp2
    have hdv : hid (mo = 0 ∨ False → dv 2147483648 (σ1 (a + 1)) n = x.natAbs + de) := fun h => by
      have h := h.resolve_right (fun c => c)
      rw [h] at f5
      rw [hsp]
      simp at f5
      omega
    have hmo0 : hid (up = 0 → mo = 0) := fun h => by
      rcases f6 with g | g
      · exact g
      · exfalso
        have hk : k = n := hkn.resolve_right (by omega)
        subst hk
        have h7 := (dv_range (B := 2147483648) (by decide) f4).2
        have h8 : de = -1 := by omega
        rw [g, h8, h5] at f5
        omega
    refine q_iload_n d_Nu_step_105 rfl ?_
    refine q_if_eq (tgt := 145) (by omega) d_Nu_step_106 (by decide) (fun cu => ?_) (fun cu => ?_)
    · refine q_aload_n d_Nu_step_145 rfl ?_
      have hU : nU σ1 a w n ((x + b).natAbs) x.sign := ⟨by rw [f1]; exact h1, by rw [f1]; exact h2, h3, hdg, by rw [hdv (Or.inl (hmo0 (by omega))), hab]⟩
      refine q_callV (As := []) (c_Nu_trim l K hL hU) w_cd_Nu_trim w_ini_Nu w_ml_Nu_64 w_im_Nu_trim w_se_Nu_trim hL.1.1 rfl hd_Nu_trim rfl (Nat.le_of_ble_eq_true rfl) d_Nu_step_146 (by decide) (by decide) (fun v σ2 hp => ?_)
      obtain ⟨rfl, ⟨n2, k1, k2⟩, k3⟩ := hp
      exact q_vret rfl (⟨rfl, k1.val k2 rfl (fun h => (hsg h).symm), fun q h6 h7 => by rw [k3 q h6]; exact f2 q h6 h7⟩) d_Nu_step_149
    · refine q_iload_n d_Nu_step_109 rfl ?_
      refine q_if_eq (tgt := 145) (by omega) d_Nu_step_110 (by decide) (fun cm => ?_) (fun cm => ?_)
      · refine q_aload_n d_Nu_step_145 rfl ?_
        have hU : nU σ1 a w n ((x + b).natAbs) x.sign := ⟨by rw [f1]; exact h1, by rw [f1]; exact h2, h3, hdg, by rw [hdv (Or.inl cm), hab]⟩
        refine q_callV (As := []) (c_Nu_trim l K hL hU) w_cd_Nu_trim w_ini_Nu w_ml_Nu_64 w_im_Nu_trim w_se_Nu_trim hL.1.1 rfl hd_Nu_trim rfl (Nat.le_of_ble_eq_true rfl) d_Nu_step_146 (by decide) (by decide) (fun v σ2 hp => ?_)
        obtain ⟨rfl, ⟨n2, k1, k2⟩, k3⟩ := hp
        exact q_vret rfl (⟨rfl, k1.val k2 rfl (fun h => (hsg h).symm), fun q h6 h7 => by rw [k3 q h6]; exact f2 q h6 h7⟩) d_Nu_step_149
      · refine q_aload_n d_Nu_step_113 rfl ?_
        refine q_gi (by assumption) pc_Nu 1 (by decide) w_fl_Nu_13 rfl (by rfl) d_Nu_step_114 ?_
        refine q_topi (show _ = (n : Int) by rw [f1]; exact h1) ?_
        refine q_aload_n d_Nu_step_117 rfl ?_
        refine q_gr (by assumption) pc_Nu 0 (by decide) w_fl_Nu_9 rfl (by rfl) d_Nu_step_118 ?_
        refine q_len 0 rfl (by assumption) d_Nu_step_121 ?_
        refine q_icmp_ge (tgt := 145) (by omega) (by omega) d_Nu_step_122 (by decide) (fun c122 => absurd c122 (by omega)) (fun c122 => ?_)
        refine q_aload_n d_Nu_step_125 rfl ?_
        refine q_gr (by assumption) pc_Nu 0 (by decide) w_fl_Nu_9 rfl (by rfl) d_Nu_step_126 ?_
        refine q_aload_n d_Nu_step_129 rfl ?_
        refine q_gi (by assumption) pc_Nu 1 (by decide) w_fl_Nu_13 rfl (by rfl) d_Nu_step_130 ?_
        refine q_topi (show _ = (n : Int) by rw [f1]; exact h1) ?_
        refine q_iconst d_Nu_step_133 rfl ?_
        refine q_ias (n) (by assumption) (by omega) (by omega) (by omega) d_Nu_step_134 ?_
        refine q_aload_n d_Nu_step_135 rfl ?_
        refine q_dup d_Nu_step_136 rfl ?_
        refine q_gi (by assumption) pc_Nu 1 (by decide) w_fl_Nu_13 rfl (by rfl) d_Nu_step_137 ?_
        refine q_topi (show _ = (n : Int) by rw [q_up_a _ _ (by omega), f1]; exact h1) ?_
        refine q_iconst d_Nu_step_140 rfl ?_
        refine q_iadd d_Nu_step_141 ?_
        refine q_pi (by assumption) pc_Nu 1 (by decide) w_fl_Nu_13 rfl rfl rfl rfl (by rfl) d_Nu_step_142 ?_
        refine q_aload_n d_Nu_step_145 rfl ?_
        obtain rfl : k = n := hkn.resolve_right cm
        obtain rfl : mo = 1 := by omega
        have hU : nU (q_up (q_up σ1 (a + 1) k 1) a 1 ((k : Int) + 1)) a w (k + 1) ((x + b).natAbs) x.sign := by
          refine ⟨by rw [q_up_self]; omega, by rw [q_up_ne _ _ (by omega), q_up_a _ _ (by omega), f1]; exact h2, by omega, fun j hj => ?_, ?_⟩
          · rw [q_up_a _ _ (by omega)]
            exact if e : j = k then by subst e; rw [q_up_self]; omega else by rw [q_up_k _ _ e]; exact f4 j (by omega)
          · rw [q_up_a _ _ (by omega), dv_s, dv_congr (h := σ1 (a + 1)) (fun j hj => q_up_k _ _ (by omega)), q_up_self, hab, ← h5]
            rw [hde1 cu] at f5 ⊢
            omega
        refine q_callV (As := []) (c_Nu_trim l K hL hU) w_cd_Nu_trim w_ini_Nu w_ml_Nu_64 w_im_Nu_trim w_se_Nu_trim hL.1.1 rfl hd_Nu_trim rfl (Nat.le_of_ble_eq_true rfl) d_Nu_step_146 (by decide) (by decide) (fun v σ2 hp => ?_)
        obtain ⟨rfl, ⟨n2, k1, k2⟩, k3⟩ := hp
        exact q_vret rfl (⟨rfl, k1.val k2 rfl (fun h => (hsg h).symm), fun q h6 h7 => by rw [k3 q h6, q_up_a _ _ h6, q_up_a _ _ h7]; exact f2 q h6 h7⟩) d_Nu_step_149
  have loop : ∀ (d k : Nat), k + d = n → ∀ (σ1 : q_S) (mo : Int), k ≤ n → σ1 a = σ a → (∀ q, q ≠ a → q ≠ a + 1 → σ1 q = σ q) → (∀ j, k ≤ j → σ1 (a + 1) j = σ (a + 1) j) → (∀ j, j < k → 0 ≤ σ1 (a + 1) j ∧ σ1 (a + 1) j < 2147483648) → dv 2147483648 (σ1 (a + 1)) k + (de * mo) * 2147483648 ^ k = dv 2147483648 (σ (a + 1)) k + de → (mo = 0 ∨ mo = 1) → ∀ t : Int, t = k →  q_T l K L R_Nu b_Nu_step 5 none 3 (fun v σ' => v = none ∧ nV σ' a w (x + b) ∧ ∀ q, q ≠ a → q ≠ a + 1 → σ' q = σ q) 33 [some (.ref a), some (vi b), some (vi up), some (vi mo), some (vi t)] [] σ1 := by
    intro d
    induction d with
    | zero =>
      intro k hk σ1 mo f0 f1 f2 f3 f4 f5 f6 t ht
      refine q_iload d_Nu_step_33 rfl ?_
      refine q_aload_n d_Nu_step_35 rfl ?_
      refine q_gi (by assumption) pc_Nu 1 (by decide) w_fl_Nu_13 rfl (by rfl) d_Nu_step_36 ?_
      refine q_topi (show _ = (n : Int) by rw [f1]; exact h1) ?_
      refine q_icmp_ge (tgt := 105) (by omega) (by omega) d_Nu_step_39 (by decide) (fun c39 => ?_) (fun c39 => absurd c39 (by omega))
      exact hfin k mo (Or.inl (by omega)) σ1 f0 f1 f2 f3 f4 f5 f6 t ht
    | succ d ih =>
      intro k hk σ1 mo f0 f1 f2 f3 f4 f5 f6 t ht
      refine q_iload d_Nu_step_33 rfl ?_
      refine q_aload_n d_Nu_step_35 rfl ?_
      refine q_gi (by assumption) pc_Nu 1 (by decide) w_fl_Nu_13 rfl (by rfl) d_Nu_step_36 ?_
      refine q_topi (show _ = (n : Int) by rw [f1]; exact h1) ?_
      refine q_icmp_ge (tgt := 105) (by omega) (by omega) d_Nu_step_39 (by decide) (fun c39 => absurd c39 (by omega)) (fun c39 => ?_)
      refine q_iload_n d_Nu_step_42 rfl ?_
      refine q_if_eq (tgt := 105) (by omega) d_Nu_step_43 (by decide) (fun cm => ?_) (fun cm => ?_)
      · exact hfin k mo (Or.inr cm) σ1 f0 f1 f2 f3 f4 f5 f6 t ht
      · obtain rfl : mo = 1 := by omega
        have r1 := h4 k (by omega)
        obtain ⟨m2, hm2⟩ : ∃ m2 : Int, m2 = if σ (a + 1) k = tg then 1 else 0 := ⟨_, rfl⟩
        have hm3 : (m2 = 0 ∨ m2 = 1) ∧ (σ (a + 1) k + de) % 2147483648 + (de * m2) * 2147483648 = de + σ (a + 1) k := by
          rw [hm2]
          split
          · rcases hud with ⟨-, rfl, rfl⟩ | ⟨-, rfl, rfl⟩ <;> omega
          · rcases hud with ⟨-, rfl, rfl⟩ | ⟨-, rfl, rfl⟩ <;> omega
        refine q_aload_n d_Nu_step_46 rfl ?_
        refine q_gr (by assumption) pc_Nu 0 (by decide) w_fl_Nu_9 rfl (by rfl) d_Nu_step_47 ?_
        refine q_iload d_Nu_step_50 rfl ?_
        refine q_ial (k) (by assumption) (by omega) (by omega) (by omega) d_Nu_step_52 ?_
        refine q_topi (f3 k (Nat.le_refl k)) ?_
        refine q_iload_n d_Nu_step_53 rfl ?_
        refine q_jn1 (V := tg) 63 (fun jn => ?_) ?_
        · refine q_if_eq (tgt := 62) (by omega) d_Nu_step_54 (by decide) (fun c54 => ?_) (fun c54 => ?_)
          · refine q_iconst d_Nu_step_62 rfl ?_
            exact jn _ (by rcases hud with ⟨h, -, h9⟩ | ⟨h, -, h9⟩ <;> omega)
          · refine q_ldc (z := 2147483647) w_k_Nu_71 (by decide) d_Nu_step_57 ?_
            refine q_goto (tgt := 63) d_Nu_step_59 (by decide) ?_
            exact jn _ (by rcases hud with ⟨h, -, h9⟩ | ⟨h, -, h9⟩ <;> omega)
        · refine q_jn2 (V := m2) 71 (fun jn => ?_) ?_
          · refine q_icmp_ne (tgt := 70) (by omega) (by rcases hud with ⟨h, -, h9⟩ | ⟨h, -, h9⟩ <;> omega) d_Nu_step_63 (by decide) (fun ct => ?_) (fun ct => ?_)
            · refine q_iconst d_Nu_step_70 rfl ?_
              exact jn _ (by rw [hm2]; exact (if_neg ct).symm)
            · refine q_iconst d_Nu_step_66 rfl ?_
              refine q_goto (tgt := 71) d_Nu_step_67 (by decide) ?_
              exact jn _ (by rw [hm2]; exact (if_pos ct).symm)
          · refine q_ist_n_3 d_Nu_step_71 (by decide) rfl ?_
            refine q_aload_n d_Nu_step_72 rfl ?_
            refine q_gr (by assumption) pc_Nu 0 (by decide) w_fl_Nu_9 rfl (by rfl) d_Nu_step_73 ?_
            refine q_iload d_Nu_step_76 rfl ?_
            refine q_aload_n d_Nu_step_78 rfl ?_
            refine q_gr (by assumption) pc_Nu 0 (by decide) w_fl_Nu_9 rfl (by rfl) d_Nu_step_79 ?_
            refine q_iload d_Nu_step_82 rfl ?_
            refine q_ial (k) (by assumption) (by omega) (by omega) (by omega) d_Nu_step_84 ?_
            refine q_topi (f3 k (Nat.le_refl k)) ?_
            refine q_iload_n d_Nu_step_85 rfl ?_
            refine q_jn1 (V := de) 94 (fun jn => ?_) ?_
            · refine q_if_eq (tgt := 93) (by omega) d_Nu_step_86 (by decide) (fun c86 => ?_) (fun c86 => ?_)
              · refine q_iconst d_Nu_step_93 rfl ?_
                exact jn _ (by rcases hud with ⟨h, h9, -⟩ | ⟨h, h9, -⟩ <;> omega)
              · refine q_iconst d_Nu_step_89 rfl ?_
                refine q_goto (tgt := 94) d_Nu_step_90 (by decide) ?_
                exact jn _ (by rcases hud with ⟨h, h9, -⟩ | ⟨h, h9, -⟩ <;> omega)
            · refine q_iadd d_Nu_step_94 ?_
              refine q_ldc (z := 2147483647) w_k_Nu_71 (by decide) d_Nu_step_95 ?_
              refine q_iand (z := (σ (a + 1) k + de) % 2147483648) (q_iand31 _) d_Nu_step_97 ?_
              refine q_ias (k) (by assumption) (by omega) (by omega) (by omega) d_Nu_step_98 ?_
              refine q_iinc_4 d_Nu_step_99 (by decide) rfl ?_
              refine q_goto (tgt := 33) d_Nu_step_102 (by decide) ?_
              exact ih (k + 1) (by omega) _ m2 (by omega) (by rw [q_up_a _ _ (by omega)]; exact f1) (fun q h6 h7 => by rw [q_up_a _ _ h7]; exact f2 q h6 h7) (fun j hj => by rw [q_up_k _ _ (by omega)]; exact f3 j (by omega)) (fun j hj => if e : j = k then by subst e; rw [q_up_self]; omega else by rw [q_up_k _ _ e]; exact f4 j (by omega)) (by rw [dv_step (c := de * 1) (s := σ (a + 1) k) f5 (fun j hj => q_up_k _ _ (by omega)) (by rw [q_up_self]; have := hm3.2; omega), dv_s]; grind) hm3.1 _ (by omega)
  exact loop n 0 (by omega) σ 1 (by omega) rfl (fun q _ _ => rfl) (fun j _ => rfl) (fun j hj => by omega) (by simp [dv]) (Or.inr rfl) _ rfl
set_option maxHeartbeats 4000000 in
set_option maxRecDepth 100000 in
theorem c_Nu_step (l : Launch) (K : pw_K) {L : q_L} {σ : q_S} {a w : Nat} {x b : Int} (hL : nL L a w) (ha : nV σ a w x) (hb : b = 1 ∨ b = -1) (hw3 : 3 ≤ w) (hx : (x.natAbs : Int) < 2147483648 ^ (w - 1)) : q_C l K L y_Nu_step b_Nu_step 5 none 3 [.ref a, vi b] σ (fun v σ' => v = none ∧ nV σ' a w (x + b) ∧ ∀ q, q ≠ a → q ≠ a + 1 → σ' q = σ q) := by
  have hw := hL.2
  obtain ⟨hA, hB⟩ := hL.1
  obtain ⟨n, hu, ht0⟩ := ha
  have hn := (hu.le ht0).mpr hx
  obtain ⟨h1, h2, h3, h4, h5⟩ := hu
  have hn : n < w := by omega
  refine q_start [some (.ref a), some (vi b), none, none, none] (by decide) (Nat.le_of_ble_eq_true rfl) (fun q h => h) ?_
  refine q_aload_n d_Nu_step_0 rfl ?_
  refine q_gi (by assumption) pc_Nu 2 (by decide) w_fl_Nu_17 rfl (by rfl) d_Nu_step_1 ?_
  refine q_topi h2 ?_
  refine q_if_ne (tgt := 14) (by have := sg3 x; omega) d_Nu_step_4 (by decide) (fun c0 => ?_) (fun c0 => ?_)
  · refine q_aload_n d_Nu_step_14 rfl ?_
    refine q_gi (by assumption) pc_Nu 2 (by decide) w_fl_Nu_17 rfl (by rfl) d_Nu_step_15 ?_
    refine q_topi h2 ?_
    refine q_iload_n d_Nu_step_18 rfl ?_
    refine q_jn2 (V := if x.sign = b then 1 else 0) 27 (fun jn => ?_) ?_
    · refine q_icmp_ne (tgt := 26) (by have := sg3 x; omega) (by omega) d_Nu_step_19 (by decide) (fun cu => ?_) (fun cu => ?_)
      · refine q_iconst d_Nu_step_26 rfl ?_
        exact jn _ ((if_neg cu).symm)
      · refine q_iconst d_Nu_step_22 rfl ?_
        refine q_goto (tgt := 27) d_Nu_step_23 (by decide) ?_
        exact jn _ ((if_pos cu).symm)
    · refine q_ist_n_2 d_Nu_step_27 (by decide) rfl ?_
      refine q_iconst d_Nu_step_28 rfl ?_
      refine q_ist_n_3 d_Nu_step_29 (by decide) rfl ?_
      refine q_iconst d_Nu_step_30 rfl ?_
      refine q_ist_4 d_Nu_step_31 (by decide) rfl ?_
      obtain ⟨up, hup⟩ : ∃ up : Int, (if x.sign = b then (1 : Int) else 0) = up := ⟨_, rfl⟩
      rw [hup]
      obtain ⟨de, tg, hud, hde, hab, hsg⟩ : ∃ de tg : Int, ((up = 1 ∧ de = 1 ∧ tg = 2147483647) ∨ (up = 0 ∧ de = -1 ∧ tg = 0)) ∧ (de = 1 ∨ (de = -1 ∧ (x.natAbs : Int) ≥ 1)) ∧ ((x + b).natAbs : Int) = x.natAbs + de ∧ hid (x + b ≠ 0 → (x + b).sign = x.sign) := by
        have hs := sg3 x
        by_cases hxb : x.sign = b
        · rw [if_pos hxb] at hup
          exact ⟨1, 2147483647, Or.inl ⟨hup.symm, rfl, rfl⟩, Or.inl rfl, by omega, fun h => by have := sg3 (x + b); omega⟩
        · rw [if_neg hxb] at hup
          exact ⟨-1, 0, Or.inr ⟨hup.symm, rfl, rfl⟩, Or.inr ⟨rfl, by omega⟩, by omega, fun h => by have := sg3 (x + b); omega⟩
      clear hup
      exact st_rest l K hL hn h1 h2 h3 h4 h5 hud hde hab hsg
  · refine q_aload_n d_Nu_step_7 rfl ?_
    refine q_iload_n d_Nu_step_8 rfl ?_
    refine q_i2l (by omega) d_Nu_step_9 ?_
    refine q_callV (As := [vl b]) (q_Nu_setLong l K σ hL hw3 (by omega)) w_cd_Nu_setLong w_ini_Nu w_ml_Nu_67 w_im_Nu_setLong w_se_Nu_setLong (by assumption) rfl hd_Nu_setLong rfl (Nat.le_of_ble_eq_true rfl) d_Nu_step_10 (by decide) (by decide) (fun v σ2 hp => ?_)
    obtain ⟨rfl, k1, k2⟩ := hp
    exact q_vret rfl (⟨rfl, by rw [show x + b = b by have := sg0 c0; omega]; exact k1, k2⟩) d_Nu_step_13
