/-! NUM: shiftDown, move -/
theorem q_ishlP {p : Nat} (h : p < 31) : Int32.ofInt 1 <<< (Int32.ofInt (p : Int) &&& 31) = Int32.ofInt (2 ^ p) := by
  have : ∀ p : Fin 31, Int32.ofInt 1 <<< (Int32.ofInt ((p.val : Nat) : Int) &&& 31) = Int32.ofInt (2 ^ p.val) := by decide +kernel
  exact this ⟨p, h⟩
theorem q_iandP {x : Int} {p : Nat} (hx : 0 ≤ x ∧ x < 2147483648) (hp : p < 31) : Int32.ofInt x &&& Int32.ofInt (2 ^ p - 1) = Int32.ofInt (x % 2 ^ p) := by
  obtain ⟨m, rfl⟩ : ∃ m : Nat, x = m := ⟨x.toNat, by omega⟩
  have h1 := ip_pos (B := 2) (by decide) p
  have h2 := ip_le (B := 2) (by decide) (show p ≤ 31 by omega)
  rw [show (2 : Int) ^ 31 = 2147483648 by decide] at h2
  have e0 : ((2 ^ p : Nat) : Int) = 2 ^ p := by simp
  apply Int32.toBitVec_inj.mp
  rw [Int32.toBitVec_and, Int32.toBitVec_ofInt, Int32.toBitVec_ofInt, Int32.toBitVec_ofInt]
  apply BitVec.eq_of_toNat_eq
  rw [BitVec.toNat_and, BitVec.toNat_ofInt, BitVec.toNat_ofInt, BitVec.toNat_ofInt]
  have e1 : ((m : Int) % ((2 ^ 32 : Nat) : Int)).toNat = m := by omega
  have e2 : (((2 : Int) ^ p - 1) % ((2 ^ 32 : Nat) : Int)).toNat = 2 ^ p - 1 := by omega
  have e3 : (((m : Int) % 2 ^ p) % ((2 ^ 32 : Nat) : Int)).toNat = m % 2 ^ p := by
    rw [← e0, ← Int.natCast_emod]
    have := Nat.mod_le m (2 ^ p)
    omega
  rw [e1, e2, e3, Nat.and_two_pow_sub_one_eq_mod]
theorem dd_pos {a b : Int} (c : Int) (hb : 0 ≤ b) : a / b / c = a / (b * c) := by
  rw [Int.ediv_ediv, if_neg (fun h => by omega), Int.sub_zero]
/-- a window's quotient by a power of 2 below its base, limb by limb -/
theorem sd_step {P Q Y Y1 g h Z : Int} (hPQ : P * Q = 2147483648) (hP : 0 < P) (hY : Y = g + 2147483648 * Y1) (hY1 : Y1 = h + 2147483648 * Z) (hg : 0 ≤ g ∧ g < 2147483648) : (Y / P) % 2147483648 = ((h * 2147483648 + g) / P) % 2147483648 ∧ Y / P / 2147483648 = Y1 / P := by
  constructor
  · have e : Y = (h * 2147483648 + g) + P * (2147483648 * (Q * Z)) := by rw [hY, hY1]; grind
    rw [e, Int.add_mul_ediv_left _ _ (by omega), Int.add_mul_emod_self_left]
  · rw [dd_pos _ (Int.le_of_lt hP), Int.mul_comm P, ← dd_pos _ (by decide), hY, Int.add_mul_ediv_left _ _ (by decide), Int.ediv_eq_zero_of_lt hg.1 hg.2, Int.zero_add]
theorem sd_lost {A g R P Q W : Int} (hPQ : P * Q = 2147483648) (hP : 0 < P) (hA : 0 ≤ A ∧ A < W) (hg : 0 ≤ g) : (A + W * (g + 2147483648 * R)) % (W * P) = A + W * (g % P) := by
  have e1 := Int.mul_ediv_add_emod g P
  have e2 := Int.emod_nonneg g (show P ≠ 0 by omega)
  have e3 := Int.emod_lt_of_pos g hP
  have hW : 0 < W := by omega
  have e : A + W * (g + 2147483648 * R) = (A + W * (g % P)) + (W * P) * (g / P + Q * R) := by
    have : W * P * (g / P + Q * R) = W * (P * (g / P)) + W * (P * Q * R) := by grind
    rw [this, hPQ]
    have : W * g = W * (P * (g / P)) + W * (g % P) := by rw [← Int.mul_add, e1]
    grind
  rw [e, Int.add_mul_emod_self_left]
  apply Int.emod_eq_of_lt
  · have := Int.mul_nonneg (Int.le_of_lt hW) e2; omega
  · have h1 : W * (g % P + 1) ≤ W * P := Int.mul_le_mul_of_nonneg_left (by omega) (by omega)
    rw [Int.mul_add] at h1
    omega
set_option maxHeartbeats 4000000 in
set_option maxRecDepth 100000 in
theorem sd_rest (l : Launch) (K : pw_K) {L : q_L} {σ : q_S} {a w n p : Nat} {x : Int} (hL : nL L a w) (hn0 : 0 < n) (hpr : p < 100000) (h1 : σ a 1 = n) (h2 : σ a 2 = x.sign) (h3 : n ≤ w) (h4 : ∀ k, k < n → 0 ≤ σ (a + 1) k ∧ σ (a + 1) k < 2147483648) (h5 : dv 2147483648 (σ (a + 1)) n = x.natAbs) (wh : Nat) (hwn : wh ≤ n) (hwp : wh = p / 31 ∨ (wh = n ∧ n ≤ p / 31)) : q_T l K L R_Nu b_Nu_shiftDown 10 (some .boolean) 2 (fun v σ' => v = some (vi (if (x.natAbs : Int) % 2 ^ p = 0 then 0 else 1)) ∧ nV σ' a w (x.sign * ((x.natAbs : Int) / 2 ^ p)) ∧ ∀ q, q ≠ a → q ≠ a + 1 → σ' q = σ q) 36 [some (.ref a), some (vi (p : Int)), some (vi (wh : Int)), some (vi ((p % 31 : Nat) : Int)), some (vi 0), some (vi 0), none, none, none, none] [] σ := by
  have hw := hL.2
  obtain ⟨hA, hB⟩ := hL.1
  obtain ⟨Q, hPQ, hQ, hP⟩ := p31 (p := p % 31) (Nat.mod_lt p (by decide))
  have hPl : (2 : Int) ^ (p % 31) ≤ 1073741824 := by
    have := ip_le (B := 2) (by decide) (show p % 31 ≤ 30 by have := Nat.mod_lt p (show 0 < 31 by decide); omega)
    rw [show (2 : Int) ^ 30 = 1073741824 by decide] at this
    exact this
  have e2p : (2 : Int) ^ p = 2147483648 ^ (p / 31) * 2 ^ (p % 31) := by rw [show (2147483648 : Int) = 2 ^ 31 by decide, ← Int.pow_mul, ← Int.pow_add, Nat.div_add_mod]
  obtain ⟨LST, hLST⟩ : ∃ LST : Int, LST = (if (x.natAbs : Int) % 2 ^ p = 0 then (0 : Int) else 1) := ⟨_, rfl⟩
  have hsp := dv_split 2147483648 (σ (a + 1)) wh (n - wh)
  rw [show wh + (n - wh) = n by omega, h5] at hsp
  have hra := dv_range (B := 2147483648) (by decide) (fun k hk => h4 k (show k < n by omega) : ∀ k, k < wh → 0 ≤ σ (a + 1) k ∧ σ (a + 1) k < 2147483648)
  have hqt : dv 2147483648 (fun j => σ (a + 1) (wh + j)) (n - wh) / 2 ^ (p % 31) = (x.natAbs : Int) / 2 ^ p := by
    rcases hwp with h | ⟨h, h'⟩
    · rw [e2p, ← h, ← dd_pos _ (Int.le_of_lt (ip_pos (by decide) wh)), hsp, Int.add_mul_ediv_left _ _ (by have := ip_pos (B := 2147483648) (by decide) wh; omega), Int.ediv_eq_zero_of_lt hra.1 hra.2, Int.zero_add]
    · have hlt : (x.natAbs : Int) < 2 ^ p := by
        have g1 := (dv_range (B := 2147483648) (by decide) h4).2
        rw [h5] at g1
        have g2 := ip_le (B := 2147483648) (by decide) h'
        have g3 := Int.mul_le_mul_of_nonneg_left (show 1 ≤ (2 : Int) ^ (p % 31) by omega) (Int.le_of_lt (ip_pos (B := 2147483648) (by decide) (p / 31)))
        rw [e2p]
        omega
      rw [Int.ediv_eq_zero_of_lt (by omega) hlt, show n - wh = 0 by omega]
      simp [dv]
  have hle : hid (n ≤ wh → LST = if dv 2147483648 (σ (a + 1)) wh = 0 then 0 else 1) := fun h => by
    have hlt : (x.natAbs : Int) < 2 ^ p := by
      have g1 := (dv_range (B := 2147483648) (by decide) h4).2
      rw [h5] at g1
      have g2 := ip_le (B := 2147483648) (by decide) (show n ≤ p / 31 by omega)
      have g3 := Int.mul_le_mul_of_nonneg_left (show 1 ≤ (2 : Int) ^ (p % 31) by omega) (Int.le_of_lt (ip_pos (B := 2147483648) (by decide) (p / 31)))
      rw [e2p]
      omega
    rw [hLST, Int.emod_eq_of_lt (by omega) hlt, show wh = n by omega, h5]
  have hlt : hid (wh < n → ∀ {lo : Int}, (lo = if dv 2147483648 (σ (a + 1)) wh = 0 then 0 else 1) → (if lo = 1 ∨ ¬ σ (a + 1) wh % 2 ^ (p % 31) = 0 then (1 : Int) else 0) = LST) := fun h lo hlo => by
    have hwq : wh = p / 31 := by omega
    have hlow := dv_low 2147483648 (σ (a + 1)) h
    have hm := sd_lost (R := dv 2147483648 (fun j => σ (a + 1) (wh + 1 + j)) (n - (wh + 1))) hPQ hP hra (h4 wh h).1
    rw [← hlow, ← hsp] at hm
    have hm2 : (x.natAbs : Int) % 2 ^ p = dv 2147483648 (σ (a + 1)) wh + 2147483648 ^ wh * (σ (a + 1) wh % 2 ^ (p % 31)) := by rw [e2p, ← hwq]; exact hm
    have hnn := Int.emod_nonneg (σ (a + 1) wh) (show (2 : Int) ^ (p % 31) ≠ 0 by omega)
    have hwp0 := ip_pos (B := 2147483648) (by decide) wh
    rw [hLST, hm2, hlo]
    by_cases g1 : dv 2147483648 (σ (a + 1)) wh = 0
    · rw [if_pos g1]
      by_cases g2 : σ (a + 1) wh % 2 ^ (p % 31) = 0
      · rw [if_neg (fun c => c.elim (fun c => by omega) (fun c => c g2)), g1, g2, if_pos (by simp)]
      · rw [if_pos (Or.inr g2), if_neg]
        have := Int.mul_pos hwp0 (show 0 < σ (a + 1) wh % 2 ^ (p % 31) by omega)
        omega
    · rw [if_neg g1, if_pos (Or.inl rfl), if_neg]
      have := Int.mul_nonneg (Int.le_of_lt hwp0) hnn
      omega
  have loop2 : ∀ (d i : Nat), wh + i + d = n → ∀ (σ1 : q_S), σ1 a = σ a → (∀ q, q ≠ a → q ≠ a + 1 → σ1 q = σ q) → (∀ j, wh + i ≤ j → σ1 (a + 1) j = σ (a + 1) j) → (∀ j, j < i → 0 ≤ σ1 (a + 1) j ∧ σ1 (a + 1) j < 2147483648) → dv 2147483648 (σ1 (a + 1)) i + 2147483648 ^ i * (dv 2147483648 (fun j => σ (a + 1) (wh + i + j)) (n - (wh + i)) / 2 ^ (p % 31)) = dv 2147483648 (fun j => σ (a + 1) (wh + j)) (n - wh) / 2 ^ (p % 31) → ∀ t : Int, t = ((wh + i : Nat) : Int) →  q_T l K L R_Nu b_Nu_shiftDown 10 (some .boolean) 2 (fun v σ' => v = some (vi (if (x.natAbs : Int) % 2 ^ p = 0 then 0 else 1)) ∧ nV σ' a w (x.sign * ((x.natAbs : Int) / 2 ^ p)) ∧ ∀ q, q ≠ a → q ≠ a + 1 → σ' q = σ q) 108 [some (.ref a), some (vi (p : Int)), some (vi (wh : Int)), some (vi ((p % 31 : Nat) : Int)), some (vi LST), some (vi t), none, none, none, none] [] σ1 := by
    intro d
    induction d with
    | zero =>
      intro i hi σ1 f1 f2 f3 f4 f5 t ht
      rw [show n - (wh + i) = 0 by omega] at f5
      refine q_iload d_Nu_shiftDown_108 rfl ?_
      refine q_aload_n d_Nu_shiftDown_110 rfl ?_
      refine q_gi (by assumption) pc_Nu 1 (by decide) w_fl_Nu_13 rfl (by rfl) d_Nu_shiftDown_111 ?_
      refine q_topi (show _ = (n : Int) by rw [f1]; exact h1) ?_
      refine q_icmp_ge (tgt := 184) (by omega) (by omega) d_Nu_shiftDown_114 (by decide) (fun c114 => ?_) (fun c114 => absurd c114 (by omega))
      refine q_aload_n d_Nu_shiftDown_184 rfl ?_
      refine q_aload_n d_Nu_shiftDown_185 rfl ?_
      refine q_gi (by assumption) pc_Nu 1 (by decide) w_fl_Nu_13 rfl (by rfl) d_Nu_shiftDown_186 ?_
      refine q_topi (show _ = (n : Int) by rw [f1]; exact h1) ?_
      refine q_iload_n d_Nu_shiftDown_189 rfl ?_
      refine q_isub d_Nu_shiftDown_190 ?_
      refine q_pi (by assumption) pc_Nu 1 (by decide) w_fl_Nu_13 rfl rfl rfl rfl (by rfl) d_Nu_shiftDown_191 ?_
      refine q_aload_n d_Nu_shiftDown_194 rfl ?_
      obtain rfl : wh + i = n := by omega
      have hq : dv 2147483648 (σ1 (a + 1)) i = (x.natAbs : Int) / 2 ^ p := by rw [← hqt]; simpa [dv] using f5
      have hU : nU (q_up σ1 a 1 (((wh + i : Nat) : Int) - wh)) a w i ((x.natAbs : Int) / 2 ^ p) x.sign := ⟨by rw [q_up_self]; omega, by rw [q_up_ne _ _ (by omega), f1]; exact h2, by omega, by rw [q_up_a _ _ (by omega)]; exact f4, by rw [q_up_a _ _ (by omega)]; exact hq⟩
      refine q_callV (As := []) (c_Nu_trim l K hL hU) w_cd_Nu_trim w_ini_Nu w_ml_Nu_64 w_im_Nu_trim w_se_Nu_trim hL.1.1 rfl hd_Nu_trim rfl (Nat.le_of_ble_eq_true rfl) d_Nu_shiftDown_195 (by decide) (by decide) (fun v σ2 hp => ?_)
      obtain ⟨rfl, ⟨n2, k1, k2⟩, k3⟩ := hp
      refine q_iload d_Nu_shiftDown_198 rfl ?_
      exact q_zret rfl (by rw [hLST]; split; exact Or.inl rfl; exact Or.inr rfl) (⟨by rw [hLST], k1.val k2 (dm_abs (ip_pos (by decide) p)) (fun h => dm_sgn (ip_pos (by decide) p) h), fun q h6 h7 => by rw [k3 q h6, q_up_a _ _ h6]; exact f2 q h6 h7⟩) d_Nu_shiftDown_200
    | succ d ih =>
      intro i hi σ1 f1 f2 f3 f4 f5 t ht
      refine q_iload d_Nu_shiftDown_108 rfl ?_
      refine q_aload_n d_Nu_shiftDown_110 rfl ?_
      refine q_gi (by assumption) pc_Nu 1 (by decide) w_fl_Nu_13 rfl (by rfl) d_Nu_shiftDown_111 ?_
      refine q_topi (show _ = (n : Int) by rw [f1]; exact h1) ?_
      refine q_icmp_ge (tgt := 184) (by omega) (by omega) d_Nu_shiftDown_114 (by decide) (fun c114 => absurd c114 (by omega)) (fun c114 => ?_)
      have r1 := h4 (wh + i) (by omega)
      have r2 := pd_r h4 (wh + i + 1)
      have r3 : 0 ≤ pd (σ (a + 1)) n (wh + i + 1) * 2147483648 + σ (a + 1) (wh + i) ∧ pd (σ (a + 1)) n (wh + i + 1) * 2147483648 + σ (a + 1) (wh + i) < 4611686018427387904 := by omega
      have r4 : 0 ≤ (pd (σ (a + 1)) n (wh + i + 1) * 2147483648 + σ (a + 1) (wh + i)) / 2 ^ (p % 31) := Int.ediv_nonneg r3.1 (by omega)
      refine q_iload d_Nu_shiftDown_117 rfl ?_
      refine q_iconst d_Nu_shiftDown_119 rfl ?_
      refine q_iadd d_Nu_shiftDown_120 ?_
      refine q_aload_n d_Nu_shiftDown_121 rfl ?_
      refine q_gi (by assumption) pc_Nu 1 (by decide) w_fl_Nu_13 rfl (by rfl) d_Nu_shiftDown_122 ?_
      refine q_topi (show _ = (n : Int) by rw [f1]; exact h1) ?_
      refine q_jnl2 (V := pd (σ (a + 1)) n (wh + i + 1)) 142 (fun jn => ?_) ?_
      · refine q_icmp_ge (tgt := 141) (by omega) (by omega) d_Nu_shiftDown_125 (by decide) (fun ck => ?_) (fun ck => ?_)
        · refine q_lconst (z := 0) d_Nu_shiftDown_141 (by decide) ?_
          exact jn _ ((if_neg (by omega)).symm)
        · refine q_aload_n d_Nu_shiftDown_128 rfl ?_
          refine q_gr (by assumption) pc_Nu 0 (by decide) w_fl_Nu_9 rfl (by rfl) d_Nu_shiftDown_129 ?_
          refine q_iload d_Nu_shiftDown_132 rfl ?_
          refine q_iconst d_Nu_shiftDown_134 rfl ?_
          refine q_iadd d_Nu_shiftDown_135 ?_
          refine q_ial (wh + i + 1) (by assumption) (by omega) (by omega) (by omega) d_Nu_shiftDown_136 ?_
          refine q_i2l (by rw [f3 _ (by omega)]; have := h4 (wh + i + 1) (by omega); omega) d_Nu_shiftDown_137 ?_
          refine q_goto (tgt := 142) d_Nu_shiftDown_138 (by decide) ?_
          exact jn _ (by rw [f3 _ (by omega)]; exact (if_pos (by omega)).symm)
      · refine q_lst_6 d_Nu_shiftDown_142 (by decide) rfl ?_
        refine q_lload d_Nu_shiftDown_144 rfl ?_
        refine q_bipush d_Nu_shiftDown_146 (by decide) ?_
        refine q_lshl (z := pd (σ (a + 1)) n (wh + i + 1) * 2147483648) (q_lshl31 _) d_Nu_shiftDown_148 ?_
        refine q_aload_n d_Nu_shiftDown_149 rfl ?_
        refine q_gr (by assumption) pc_Nu 0 (by decide) w_fl_Nu_9 rfl (by rfl) d_Nu_shiftDown_150 ?_
        refine q_iload d_Nu_shiftDown_153 rfl ?_
        refine q_ial (wh + i) (by assumption) (by omega) (by omega) (by omega) d_Nu_shiftDown_155 ?_
        refine q_topi (f3 _ (Nat.le_refl _)) ?_
        refine q_i2l (by omega) d_Nu_shiftDown_156 ?_
        refine q_lor (z := pd (σ (a + 1)) n (wh + i + 1) * 2147483648 + σ (a + 1) (wh + i)) (q_lor31 r2.1 r1 (by omega)) d_Nu_shiftDown_157 ?_
        refine q_lst_8 d_Nu_shiftDown_158 (by decide) rfl ?_
        refine q_aload_n d_Nu_shiftDown_160 rfl ?_
        refine q_gr (by assumption) pc_Nu 0 (by decide) w_fl_Nu_9 rfl (by rfl) d_Nu_shiftDown_161 ?_
        refine q_iload d_Nu_shiftDown_164 rfl ?_
        refine q_iload_n d_Nu_shiftDown_166 rfl ?_
        refine q_isub d_Nu_shiftDown_167 ?_
        refine q_lload d_Nu_shiftDown_168 rfl ?_
        refine q_iload_n d_Nu_shiftDown_170 rfl ?_
        refine q_lushr (z := (pd (σ (a + 1)) n (wh + i + 1) * 2147483648 + σ (a + 1) (wh + i)) / 2 ^ (p % 31)) (q_lushr_eq (by omega) (by omega)) d_Nu_shiftDown_171 ?_
        refine q_ldc2 (z := 2147483647) w_kl_Nu_26 (by decide) d_Nu_shiftDown_172 ?_
        refine q_land (z := (pd (σ (a + 1)) n (wh + i + 1) * 2147483648 + σ (a + 1) (wh + i)) / 2 ^ (p % 31) % 2147483648) (q_land31 _) d_Nu_shiftDown_175 ?_
        refine q_l2i d_Nu_shiftDown_176 ?_
        refine q_ias (i) (by assumption) (by omega) (by omega) (by omega) d_Nu_shiftDown_177 ?_
        refine q_iinc_5 d_Nu_shiftDown_178 (by decide) rfl ?_
        refine q_goto (tgt := 108) d_Nu_shiftDown_181 (by decide) ?_
        refine q_drop_6 (q_drop_8 ?_)
        have eY := dv_low 2147483648 (σ (a + 1)) (show wh + i < n by omega)
        have eZ : ∃ Z : Int, dv 2147483648 (fun j => σ (a + 1) (wh + i + 1 + j)) (n - (wh + i + 1)) = pd (σ (a + 1)) n (wh + i + 1) + 2147483648 * Z := by
          by_cases hk : wh + i + 1 < n
          · exact ⟨_, by rw [dv_low 2147483648 (σ (a + 1)) hk, show pd (σ (a + 1)) n (wh + i + 1) = σ (a + 1) (wh + i + 1) from if_pos hk]⟩
          · exact ⟨0, by rw [show n - (wh + i + 1) = 0 by omega, show pd (σ (a + 1)) n (wh + i + 1) = 0 from if_neg hk]; rfl⟩
        obtain ⟨Zz, eZ⟩ := eZ
        obtain ⟨s1, s2⟩ := sd_step hPQ hP eY eZ r1
        refine ih (i + 1) (by omega) _ (by rw [q_up_a _ _ (by omega)]; exact f1) (fun q h6 h7 => by rw [q_up_a _ _ h7]; exact f2 q h6 h7) (fun j hj => by rw [q_up_k _ _ (by omega)]; exact f3 j (by omega)) (fun j hj => if e : j = i then by subst e; rw [q_up_self]; omega else by rw [q_up_k _ _ e]; exact f4 j (by omega)) ?_ _ (by omega)
        rw [dv_s, dv_congr (h := σ1 (a + 1)) (fun j hj => q_up_k _ _ (by omega)), q_up_self, ← f5, ← s1, show wh + (i + 1) = wh + i + 1 by omega, ← s2, Int.pow_succ]
        have := Int.mul_ediv_add_emod (dv 2147483648 (fun j => σ (a + 1) (wh + i + j)) (n - (wh + i)) / 2 ^ (p % 31)) 2147483648
        grind
  have h105 : ∀ (lo : Int), lo = LST → ∀ t : Int, q_T l K L R_Nu b_Nu_shiftDown 10 (some .boolean) 2 (fun v σ' => v = some (vi (if (x.natAbs : Int) % 2 ^ p = 0 then 0 else 1)) ∧ nV σ' a w (x.sign * ((x.natAbs : Int) / 2 ^ p)) ∧ ∀ q, q ≠ a → q ≠ a + 1 → σ' q = σ q) 105 [some (.ref a), some (vi (p : Int)), some (vi (wh : Int)), some (vi ((p % 31 : Nat) : Int)), some (vi lo), some (vi t), none, none, none, none] [] σ := by
    intro lo hlo t
    subst hlo
    refine q_iload_n d_Nu_shiftDown_105 rfl ?_
    refine q_ist_5 d_Nu_shiftDown_106 (by decide) rfl ?_
    exact loop2 (n - wh) 0 (by omega) σ rfl (fun q _ _ => rfl) (fun j _ => rfl) (fun j hj => by omega) (by simp [dv]) _ rfl
  have h70 : ∀ (k : Nat) (lo : Int), ((lo = 0 ∧ dv 2147483648 (σ (a + 1)) k = 0) ∨ (lo = 1 ∧ dv 2147483648 (σ (a + 1)) k > 0)) → k ≤ wh → (k = wh ∨ lo = 1) → ∀ t : Int, q_T l K L R_Nu b_Nu_shiftDown 10 (some .boolean) 2 (fun v σ' => v = some (vi (if (x.natAbs : Int) % 2 ^ p = 0 then 0 else 1)) ∧ nV σ' a w (x.sign * ((x.natAbs : Int) / 2 ^ p)) ∧ ∀ q, q ≠ a → q ≠ a + 1 → σ' q = σ q) 70 [some (.ref a), some (vi (p : Int)), some (vi (wh : Int)), some (vi ((p % 31 : Nat) : Int)), some (vi lo), some (vi t), none, none, none, none] [] σ := by
    intro k lo hlo hk hkw t
    have hmono : dv 2147483648 (σ (a + 1)) k ≤ dv 2147483648 (σ (a + 1)) wh := by
      have g1 := dv_split 2147483648 (σ (a + 1)) k (wh - k)
      rw [show k + (wh - k) = wh by omega] at g1
      have g2 := (dv_range (B := 2147483648) (by decide) (g := fun j => σ (a + 1) (k + j)) (n := wh - k) (fun j hj => h4 (k + j) (by omega))).1
      have g3 := Int.mul_nonneg (Int.le_of_lt (ip_pos (B := 2147483648) (by decide) k)) g2
      omega
    have hlv : lo = if dv 2147483648 (σ (a + 1)) wh = 0 then 0 else 1 := by
      rcases hlo with ⟨g1, g2⟩ | ⟨g1, g2⟩
      · obtain rfl : k = wh := by omega
        rw [if_pos g2, g1]
      · rw [if_neg (by omega), g1]
    have hl01 : lo = 0 ∨ lo = 1 := by omega
    refine q_iload_n d_Nu_shiftDown_70 rfl ?_
    refine q_aload_n d_Nu_shiftDown_71 rfl ?_
    refine q_gi (by assumption) pc_Nu 1 (by decide) w_fl_Nu_13 rfl (by rfl) d_Nu_shiftDown_72 ?_
    refine q_topi h1 ?_
    refine q_icmp_ge (tgt := 105) (by omega) (by omega) d_Nu_shiftDown_75 (by decide) (fun cw => ?_) (fun cw => ?_)
    · exact h105 lo (by rw [hle (by omega)]; exact hlv) t
    · refine q_iload d_Nu_shiftDown_78 rfl ?_
      refine q_jn1 (V := if lo = 1 ∨ ¬ σ (a + 1) wh % 2 ^ (p % 31) = 0 then 1 else 0) 103 (fun jn => ?_) ?_
      · refine q_if_ne (tgt := 98) (by omega) d_Nu_shiftDown_80 (by decide) (fun cq => ?_) (fun cq => ?_)
        · refine q_iconst d_Nu_shiftDown_98 rfl ?_
          refine q_goto (tgt := 103) d_Nu_shiftDown_99 (by decide) ?_
          exact jn _ ((if_pos (Or.inl (by omega))).symm)
        · refine q_aload_n d_Nu_shiftDown_83 rfl ?_
          refine q_gr (by assumption) pc_Nu 0 (by decide) w_fl_Nu_9 rfl (by rfl) d_Nu_shiftDown_84 ?_
          refine q_iload_n d_Nu_shiftDown_87 rfl ?_
          refine q_ial (wh) (by assumption) (by omega) (by omega) (by omega) d_Nu_shiftDown_88 ?_
          refine q_iconst d_Nu_shiftDown_89 rfl ?_
          refine q_iload_n d_Nu_shiftDown_90 rfl ?_
          refine q_ishl (z := 2 ^ (p % 31)) (q_ishlP (Nat.mod_lt p (by decide))) d_Nu_shiftDown_91 ?_
          refine q_iconst d_Nu_shiftDown_92 rfl ?_
          refine q_isub d_Nu_shiftDown_93 ?_
          refine q_iand (z := σ (a + 1) wh % 2 ^ (p % 31)) (q_iandP (h4 wh (by omega)) (Nat.mod_lt p (by decide))) d_Nu_shiftDown_94 ?_
          refine q_if_eq (tgt := 102) (by have := h4 wh (by omega); have := Int.emod_nonneg (σ (a + 1) wh) (show (2 : Int) ^ (p % 31) ≠ 0 by omega); have := Int.emod_lt_of_pos (σ (a + 1) wh) hP; omega) d_Nu_shiftDown_95 (by decide) (fun c95 => ?_) (fun c95 => ?_)
          · refine q_iconst d_Nu_shiftDown_102 rfl ?_
            exact jn _ (by first | exact (if_pos (Or.inr (by assumption))).symm | exact (if_neg (fun c => c.elim (fun c => by omega) (fun c => c (by assumption)))).symm)
          · refine q_iconst d_Nu_shiftDown_98 rfl ?_
            refine q_goto (tgt := 103) d_Nu_shiftDown_99 (by decide) ?_
            exact jn _ (by first | exact (if_pos (Or.inr (by assumption))).symm | exact (if_neg (fun c => c.elim (fun c => by omega) (fun c => c (by assumption)))).symm)
      · refine q_ist_4 d_Nu_shiftDown_103 (by decide) rfl ?_
        exact h105 _ (hlt (by omega) hlv) t
  have loop1 : ∀ (d k : Nat), k + d = wh → ∀ (lo : Int), ((lo = 0 ∧ dv 2147483648 (σ (a + 1)) k = 0) ∨ (lo = 1 ∧ dv 2147483648 (σ (a + 1)) k > 0)) → ∀ t : Int, t = k → q_T l K L R_Nu b_Nu_shiftDown 10 (some .boolean) 2 (fun v σ' => v = some (vi (if (x.natAbs : Int) % 2 ^ p = 0 then 0 else 1)) ∧ nV σ' a w (x.sign * ((x.natAbs : Int) / 2 ^ p)) ∧ ∀ q, q ≠ a → q ≠ a + 1 → σ' q = σ q) 36 [some (.ref a), some (vi (p : Int)), some (vi (wh : Int)), some (vi ((p % 31 : Nat) : Int)), some (vi lo), some (vi t), none, none, none, none] [] σ := by
    intro d
    induction d with
    | zero =>
      intro k hk lo hlo t ht
      refine q_iload d_Nu_shiftDown_36 rfl ?_
      refine q_iload_n d_Nu_shiftDown_38 rfl ?_
      refine q_icmp_ge (tgt := 70) (by omega) (by omega) d_Nu_shiftDown_39 (by decide) (fun c39 => ?_) (fun c39 => absurd c39 (by omega))
      exact h70 k lo hlo (by omega) (by omega) t
    | succ d ih =>
      intro k hk lo hlo t ht
      refine q_iload d_Nu_shiftDown_36 rfl ?_
      refine q_iload_n d_Nu_shiftDown_38 rfl ?_
      refine q_icmp_ge (tgt := 70) (by omega) (by omega) d_Nu_shiftDown_39 (by decide) (fun c39 => absurd c39 (by omega)) (fun c39 => ?_)
      refine q_iload d_Nu_shiftDown_42 rfl ?_
      refine q_if_ne (tgt := 70) (by omega) d_Nu_shiftDown_44 (by decide) (fun cl => ?_) (fun cl => ?_)
      · exact h70 k lo hlo (by omega) (by omega) t
      · refine q_aload_n d_Nu_shiftDown_47 rfl ?_
        refine q_gr (by assumption) pc_Nu 0 (by decide) w_fl_Nu_9 rfl (by rfl) d_Nu_shiftDown_48 ?_
        refine q_iload d_Nu_shiftDown_51 rfl ?_
        refine q_ial (k) (by assumption) (by omega) (by omega) (by omega) d_Nu_shiftDown_53 ?_
        refine q_jn1 (V := if σ (a + 1) k = 0 then 0 else 1) 62 (fun jn => ?_) ?_
        · refine q_if_eq (tgt := 61) (by have := h4 k (by omega); omega) d_Nu_shiftDown_54 (by decide) (fun cz => ?_) (fun cz => ?_)
          · refine q_iconst d_Nu_shiftDown_61 rfl ?_
            exact jn _ ((if_pos cz).symm)
          · refine q_iconst d_Nu_shiftDown_57 rfl ?_
            refine q_goto (tgt := 62) d_Nu_shiftDown_58 (by decide) ?_
            exact jn _ ((if_neg cz).symm)
        · refine q_ist_4 d_Nu_shiftDown_62 (by decide) rfl ?_
          refine q_iinc_5 d_Nu_shiftDown_64 (by decide) rfl ?_
          refine q_goto (tgt := 36) d_Nu_shiftDown_67 (by decide) ?_
          refine ih (k + 1) (by omega) _ ?_ _ (by omega)
          have r0 : lo = 0 ∧ dv 2147483648 (σ (a + 1)) k = 0 := by omega
          have r1 := h4 k (by omega)
          have r2 := ip_pos (B := 2147483648) (by decide) k
          rw [dv_s, r0.2]
          by_cases hz : σ (a + 1) k = 0
          · rw [if_pos hz, hz]; exact Or.inl ⟨rfl, by simp⟩
          · rw [if_neg hz]
            have := Int.mul_pos (show 0 < σ (a + 1) k by omega) r2
            exact Or.inr ⟨rfl, by omega⟩
  exact loop1 wh 0 (by omega) 0 (Or.inl ⟨rfl, rfl⟩) _ rfl
set_option maxHeartbeats 4000000 in
set_option maxRecDepth 100000 in
theorem c_Nu_shiftDown (l : Launch) (K : pw_K) {L : q_L} {σ : q_S} {a w p : Nat} {x : Int} (hL : nL L a w) (ha : nV σ a w x) (hpr : p < 100000) : q_C l K L y_Nu_shiftDown b_Nu_shiftDown 10 (some .boolean) 2 [.ref a, vi (p : Int)] σ (fun v σ' => v = some (vi (if (x.natAbs : Int) % 2 ^ p = 0 then 0 else 1)) ∧ nV σ' a w (x.sign * ((x.natAbs : Int) / 2 ^ p)) ∧ ∀ q, q ≠ a → q ≠ a + 1 → σ' q = σ q) := by
  have hw := hL.2
  obtain ⟨hA, hB⟩ := hL.1
  have ha0 := ha
  obtain ⟨n, hu, ht0⟩ := ha0
  have hnone : hid (x = 0 ∨ p = 0 → some (vi 0) = some (vi (if (x.natAbs : Int) % 2 ^ p = 0 then 0 else 1)) ∧ nV σ a w (x.sign * ((x.natAbs : Int) / 2 ^ p)) ∧ ∀ q, q ≠ a → q ≠ a + 1 → σ q = σ q) := fun h => by
    rcases h with rfl | rfl
    · exact ⟨by simp, by simpa using ha, fun q _ _ => rfl⟩
    · refine ⟨by simp, ?_, fun q _ _ => rfl⟩
      rw [Int.pow_zero, Int.ediv_one, Int.sign_mul_natAbs]
      exact ha
  have hu2 := hu
  obtain ⟨h1, h2, h3, h4, h5⟩ := hu2
  refine q_start [some (.ref a), some (vi (p : Int)), none, none, none, none, none, none, none, none] (by decide) (Nat.le_of_ble_eq_true rfl) (fun q h => h) ?_
  refine q_aload_n d_Nu_shiftDown_0 rfl ?_
  refine q_gi (by assumption) pc_Nu 1 (by decide) w_fl_Nu_13 rfl (by rfl) d_Nu_shiftDown_1 ?_
  refine q_topi h1 ?_
  refine q_if_eq (tgt := 11) (by omega) d_Nu_shiftDown_4 (by decide) (fun c0 => ?_) (fun c0 => ?_)
  · refine q_iconst d_Nu_shiftDown_11 rfl ?_
    exact q_zret rfl (Or.inl rfl) (hnone (Or.inl (by have := (hu.zero ht0).mp (by omega); omega))) d_Nu_shiftDown_12
  · refine q_iload_n d_Nu_shiftDown_7 rfl ?_
    refine q_if_gt (tgt := 13) (by omega) d_Nu_shiftDown_8 (by decide) (fun cp => ?_) (fun cp => ?_)
    · refine q_iload_n d_Nu_shiftDown_13 rfl ?_
      refine q_bipush d_Nu_shiftDown_14 (by decide) ?_
      refine q_idiv (by omega) (by omega) (by omega) d_Nu_shiftDown_16 ?_
      refine q_topi (show _ = ((p / 31 : Nat) : Int) from rfl) ?_
      refine q_aload_n d_Nu_shiftDown_17 rfl ?_
      refine q_gi (by assumption) pc_Nu 1 (by decide) w_fl_Nu_13 rfl (by rfl) d_Nu_shiftDown_18 ?_
      refine q_topi h1 ?_
      refine q_mmin (by omega) (by omega) w_ml_Nu_89 d_Nu_shiftDown_21 (by decide) (Nat.le_of_ble_eq_true rfl) ?_
      refine q_topi (show _ = ((min (p / 31) n : Nat) : Int) by omega) ?_
      refine q_ist_n_2 d_Nu_shiftDown_24 (by decide) rfl ?_
      refine q_iload_n d_Nu_shiftDown_25 rfl ?_
      refine q_bipush d_Nu_shiftDown_26 (by decide) ?_
      refine q_irem (by omega) (by omega) (by omega) d_Nu_shiftDown_28 ?_
      refine q_topi (show _ = ((p % 31 : Nat) : Int) from rfl) ?_
      refine q_ist_n_3 d_Nu_shiftDown_29 (by decide) rfl ?_
      refine q_iconst d_Nu_shiftDown_30 rfl ?_
      refine q_ist_4 d_Nu_shiftDown_31 (by decide) rfl ?_
      refine q_iconst d_Nu_shiftDown_33 rfl ?_
      refine q_ist_5 d_Nu_shiftDown_34 (by decide) rfl ?_
      exact sd_rest l K hL (by omega) hpr h1 h2 h3 h4 h5 (min (p / 31) n) (by omega) (by omega)
    · refine q_iconst d_Nu_shiftDown_11 rfl ?_
      exact q_zret rfl (Or.inl rfl) (hnone (Or.inr (by omega))) d_Nu_shiftDown_12
theorem fl_neg {A P : Int} (hA : 0 ≤ A) (hP : 0 < P) : (-A) / P = -(A / P) + (if A % P = 0 then 0 else -1) := by
  have h1 := Int.mul_ediv_add_emod A P
  have h2 := Int.emod_nonneg A (show P ≠ 0 by omega)
  have h3 := Int.emod_lt_of_pos A hP
  by_cases h : A % P = 0
  · rw [if_pos h]
    exact (dm_uniq (Q := -(A / P) + 0) (r := 0) (s := P) (by grind) (by omega) hP).1.symm
  · rw [if_neg h]
    exact (dm_uniq (Q := -(A / P) + -1) (r := P - A % P) (s := P) (by grind) (by omega) (by omega)).1.symm
theorem mv_plain {x : Int} {p : Nat} (h : (if (x.natAbs : Int) % 2 ^ p = 0 then (0 : Int) else 1) = 0 ∨ (if x < 0 then (1 : Int) else 0) = 0) : x / 2 ^ p = x.sign * ((x.natAbs : Int) / 2 ^ p) := by
  have hP := ip_pos (B := 2) (by decide) p
  have hs := sg3 x
  rcases hs with g | g | g
  · rw [g.2, show (x.natAbs : Int) = x by omega]; omega
  · rw [g.2, g.1]; simp
  · have h0 : (x.natAbs : Int) % 2 ^ p = 0 := by
      rcases h with h | h
      · by_cases c : (x.natAbs : Int) % 2 ^ p = 0
        · exact c
        · rw [if_neg c] at h; omega
      · rw [if_pos g.1] at h; omega
    have := fl_neg (A := x.natAbs) (P := 2 ^ p) (by omega) hP
    rw [show -(x.natAbs : Int) = x by omega, if_pos h0] at this
    rw [this, g.2]; omega
theorem mv_down {x : Int} {p : Nat} (h1 : ¬ (if (x.natAbs : Int) % 2 ^ p = 0 then (0 : Int) else 1) = 0) (h2 : ¬ (if x < 0 then (1 : Int) else 0) = 0) : x / 2 ^ p = x.sign * ((x.natAbs : Int) / 2 ^ p) + -1 := by
  have hP := ip_pos (B := 2) (by decide) p
  have hx : x < 0 := by
    by_cases c : x < 0
    · exact c
    · rw [if_neg c] at h2; exact absurd rfl h2
  have h0 : ¬ (x.natAbs : Int) % 2 ^ p = 0 := fun c => by rw [if_pos c] at h1; exact h1 rfl
  have := fl_neg (A := x.natAbs) (P := 2 ^ p) (by omega) hP
  rw [show -(x.natAbs : Int) = x by omega, if_neg h0] at this
  rw [this, Int.sign_eq_neg_one_of_neg hx]; omega
theorem mv_bd {x : Int} {p u w : Nat} (hx : (x.natAbs : Int) < 2147483648 ^ u) (hu : u ≤ w - 1) : ((x.sign * ((x.natAbs : Int) / 2 ^ p)).natAbs : Int) < 2147483648 ^ (w - 1) := by
  rw [← dm_abs (ip_pos (by decide) p)]
  have h1 := Int.ediv_le_self (2 ^ p) (show (0 : Int) ≤ x.natAbs by omega)
  have h2 := ip_le (B := 2147483648) (by decide) hu
  omega
set_option maxHeartbeats 4000000 in
set_option maxRecDepth 100000 in
theorem c_Nu_move (l : Launch) (K : pw_K) {L : q_L} {σ : q_S} {a w u : Nat} {x b : Int} (hL : nL L a w) (ha : nV σ a w x) (hw3 : 3 ≤ w) (hx : (x.natAbs : Int) < 2147483648 ^ u) (hu : u + b.toNat / 31 + 1 ≤ w) (hb : -100000 < b ∧ b < 100000) : q_C l K L y_Nu_move b_Nu_move 3 none 4 [.ref a, vi b] σ (fun v σ' => v = none ∧ nV σ' a w (if 0 ≤ b then x * 2 ^ b.toNat else x / 2 ^ (-b).toNat) ∧ ∀ q, q ≠ a → q ≠ a + 1 → σ' q = σ q) := by
  have h2 : σ a 2 = x.sign := by obtain ⟨n, hu, -⟩ := ha; exact hu.2.1
  refine q_start [some (.ref a), some (vi b), none] (by decide) (Nat.le_of_ble_eq_true rfl) (fun q h => h) ?_
  refine q_aload_n d_Nu_move_0 rfl ?_
  refine q_gi hL.1.1 pc_Nu 2 (by decide) w_fl_Nu_17 rfl (by rfl) d_Nu_move_1 ?_
  refine q_topi h2 ?_
  refine q_jn1 (V := if x < 0 then 1 else 0) 12 (fun jn => ?_) ?_
  · refine q_if_ge (tgt := 11) (by have := sg3 x; omega) d_Nu_move_4 (by decide) (fun c4 => ?_) (fun c4 => ?_)
    · refine q_iconst d_Nu_move_11 rfl ?_
      exact jn _ ((if_neg (by have := sg3 x; omega)).symm)
    · refine q_iconst d_Nu_move_7 rfl ?_
      refine q_goto (tgt := 12) d_Nu_move_8 (by decide) ?_
      exact jn _ ((if_pos (by have := sg3 x; omega)).symm)
  · refine q_ist_n_2 d_Nu_move_12 (by decide) rfl ?_
    refine q_iload_n d_Nu_move_13 rfl ?_
    refine q_if_lt (tgt := 25) (by omega) d_Nu_move_14 (by decide) (fun cb => ?_) (fun cb => ?_)
    · refine q_aload_n d_Nu_move_25 rfl ?_
      refine q_iload_n d_Nu_move_26 rfl ?_
      refine q_ineg d_Nu_move_27 ?_
      refine q_topi (show _ = (((-b).toNat : Nat) : Int) by omega) ?_
      refine q_callV (As := [vi (((-b).toNat : Nat) : Int)]) (c_Nu_shiftDown l K (p := (-b).toNat) hL ha (by omega)) w_cd_Nu_shiftDown w_ini_Nu w_ml_Nu_76 w_im_Nu_shiftDown w_se_Nu_shiftDown hL.1.1 rfl hd_Nu_shiftDown rfl (Nat.le_of_ble_eq_true rfl) d_Nu_move_28 (by decide) (by decide) (fun v σ1 hp => ?_)
      obtain ⟨rfl, k1, k2⟩ := hp
      refine q_if_eq (tgt := 43) (by split <;> omega) d_Nu_move_31 (by decide) (fun cl => ?_) (fun cl => ?_)
      · exact q_vret rfl (⟨rfl, by rw [if_neg (by omega), mv_plain (Or.inl cl)]; exact k1, k2⟩) d_Nu_move_43
      · refine q_iload_n d_Nu_move_34 rfl ?_
        refine q_if_eq (tgt := 43) (by split <;> omega) d_Nu_move_35 (by decide) (fun cn => ?_) (fun cn => ?_)
        · exact q_vret rfl (⟨rfl, by rw [if_neg (by omega), mv_plain (Or.inr cn)]; exact k1, k2⟩) d_Nu_move_43
        · refine q_aload_n d_Nu_move_38 rfl ?_
          refine q_iconst d_Nu_move_39 rfl ?_
          refine q_callV (As := [vi (-1)]) (c_Nu_step l K hL k1 (Or.inr rfl) hw3 (mv_bd hx (by omega))) w_cd_Nu_step w_ini_Nu w_ml_Nu_80 w_im_Nu_step w_se_Nu_step hL.1.1 rfl hd_Nu_step rfl (Nat.le_of_ble_eq_true rfl) d_Nu_move_40 (by decide) (by decide) (fun v σ2 hp => ?_)
          obtain ⟨rfl, k3, k4⟩ := hp
          exact q_vret rfl (⟨rfl, by rw [if_neg (by omega), mv_down cl cn]; exact k3, fun q h6 h7 => by rw [k4 q h6 h7, k2 q h6 h7]⟩) d_Nu_move_43
    · refine q_aload_n d_Nu_move_17 rfl ?_
      refine q_iload_n d_Nu_move_18 rfl ?_
      refine q_topi (show b = ((b.toNat : Nat) : Int) by omega) ?_
      refine q_callV (As := [vi ((b.toNat : Nat) : Int)]) (c_Nu_shiftUp l K (u := u) (p := b.toNat) hL ha hx (by omega)) w_cd_Nu_shiftUp w_ini_Nu w_ml_Nu_72 w_im_Nu_shiftUp w_se_Nu_shiftUp hL.1.1 rfl hd_Nu_shiftUp rfl (Nat.le_of_ble_eq_true rfl) d_Nu_move_19 (by decide) (by decide) (fun v σ1 hp => ?_)
      obtain ⟨rfl, k1, k2⟩ := hp
      refine q_goto (tgt := 43) d_Nu_move_22 (by decide) ?_
      exact q_vret rfl (⟨rfl, by rw [if_pos (by omega)]; exact k1, k2⟩) d_Nu_move_43
