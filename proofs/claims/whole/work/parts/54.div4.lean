/-! DIVIDER: divide -/
theorem em_mulR {a b s : Int} (hs : 0 < s) : (a * s) % (b * s) = (a % b) * s := by rw [Int.mul_comm a, Int.mul_comm b, Int.mul_emod_mul_of_pos _ _ hs, Int.mul_comm]
theorem p2_lt {z : Int} {a b : Nat} (h1 : 2 ^ a ≤ z) (h2 : z < 2 ^ b) : a < b := by
  rcases Nat.lt_or_ge a b with h | h
  · exact h
  · have := ip_le (B := 2) (by decide) h
    omega
theorem B_pow (n : Nat) : (2147483648 : Int) ^ n = 2 ^ (31 * n) := by rw [show (2147483648 : Int) = 2 ^ 31 by decide, ← Int.pow_mul]
theorem nV_mulsg {σ : q_S} {a w : Nat} {z s : Int} (h : nV σ a w z) (hs : s = 1 ∨ s = -1) : nV (q_up σ a 2 (z.sign * s)) a w (z * s) := by
  have h2 := nV_sg h hs
  rw [show (s * z).sign = z.sign * s by rw [Int.sign_mul]; rcases hs with rfl | rfl <;> simp <;> omega, Int.mul_comm s] at h2
  exact h2
theorem nV.sgn {σ : q_S} {a w : Nat} {z : Int} (h : nV σ a w z) : σ a 2 = z.sign := by obtain ⟨n, hu, -⟩ := h; exact hu.2.1
theorem sg_pm {z : Int} (h : z ≠ 0) : z.sign = 1 ∨ z.sign = -1 := by have := sg3 z; omega
/-- what the shift makes of divisor and dividend -/
theorem dv_norm {g : Nat → Int} {n : Nat} {A : Int} (hd : ∀ k, k < n → 0 ≤ g k ∧ g k < 2147483648) (hn : 0 < n) (hv : dv 2147483648 g n = A) (hA : 2 ^ (31 * n - 1) ≤ A) : 1073741824 ≤ g (n - 1) := by
  obtain ⟨k, rfl⟩ : ∃ k, n = k + 1 := ⟨n - 1, by omega⟩
  rw [show k + 1 - 1 = k by omega]
  rcases Int.lt_or_le (g k) 1073741824 with h | h
  · exfalso
    have h1 := (dv_range (B := 2147483648) (by decide) (fun j hj => hd j (by omega)) : 0 ≤ dv 2147483648 g k ∧ dv 2147483648 g k < 2147483648 ^ k)
    have h2 := Int.mul_le_mul_of_nonneg_right (show g k + 1 ≤ 1073741824 by omega) (Int.le_of_lt (ip_pos (B := 2147483648) (by decide) k))
    rw [Int.add_mul, Int.one_mul] at h2
    rw [dv_s] at hv
    have h3 : (2 : Int) ^ (31 * (k + 1) - 1) = 1073741824 * 2147483648 ^ k := by
      rw [B_pow, show 31 * (k + 1) - 1 = 30 + 31 * k by omega, Int.pow_add]
      rfl
    omega
  · exact h
set_option maxHeartbeats 4000000 in
set_option maxRecDepth 100000 in
theorem c_Di_divide (l : Launch) (K : pw_K) {L : q_L} {σ : q_S} {a b c wa wb : Nat} {x y : Int} (hL : diL L c) (hLa : nL L a wa) (hLb : nL L b wb) (hda : a + 1 < c ∨ c + 6 < a) (hdb : b + 1 < c ∨ c + 6 < b) (ha : nV σ a wa x) (hb : nV σ b wb y) (hy0 : y ≠ 0) (hx : (x.natAbs : Int) < 2147483648 ^ 158) (hy : (y.natAbs : Int) < 2147483648 ^ 158) : q_C l K L y_Di_divide b_Di_divide 6 none 3 [.ref c, .ref a, .ref b] σ (fun v σ' => v = none ∧ nV σ' (c + 1) 160 (x.tdiv y) ∧ nV σ' (c + 3) 160 (x.tmod y) ∧ ∀ q, (q ≤ c ∨ c + 6 < q) → σ' q = σ q) := by
  have hL0 := hL
  obtain ⟨hc0, hn1, hn3, hn5, hn7⟩ := hL0
  obtain ⟨hq0, hq1⟩ := hn1.1
  obtain ⟨hr0, hr1⟩ := hn3.1
  obtain ⟨hm0, hm1⟩ := hn5.1
  obtain ⟨hA0, hA1⟩ := hLa.1
  obtain ⟨hB0, hB1⟩ := hLb.1
  have hwb := hLb.2
  have hb0 := hb
  obtain ⟨n', hu', gt⟩ := hb0
  have hn' := (hu'.le gt).mpr hy
  have hu2 := hu'
  obtain ⟨g1, g2, g3, g4, g5⟩ := hu2
  have hn0 : 0 < n' := Nat.pos_of_ne_zero (fun h => hy0 (by have := (hu'.zero gt).mp h; omega))
  refine q_start [some (.ref c), some (.ref a), some (.ref b), none, none, none] (by decide) (Nat.le_of_ble_eq_true rfl) (fun q h => h) ?_
  refine q_aload_n d_Di_divide_0 rfl ?_
  refine q_gr (by assumption) pc_Di 0 (by decide) w_fl_Di_12 rfl (by rfl) d_Di_divide_1 ?_
  refine q_callV (As := []) (c_Nu_clear l K hn1 σ) w_cd_Nu_clear w_ini_Nu w_ml_Di_27 w_im_Nu_clear w_se_Nu_clear (by assumption) rfl hd_Nu_clear rfl (Nat.le_of_ble_eq_true rfl) d_Di_divide_4 (by decide) (by decide) (fun v σ1 hp => ?_)
  obtain ⟨rfl, rfl⟩ := hp
  refine q_aload_n d_Di_divide_7 rfl ?_
  refine q_gi (by assumption) pc_Nu 1 (by decide) w_fl_Di_30 rfl (by rfl) d_Di_divide_8 ?_
  refine q_topi (show _ = (n' : Int) by rw [q_fr2 (by omega)]; exact g1) ?_
  refine q_if_ne (tgt := 22) (by omega) d_Di_divide_11 (by decide) (fun c11 => ?_) (fun c11 => absurd c11 (by have := (hu'.zero gt); omega))
  refine q_aload_n d_Di_divide_22 rfl ?_
  refine q_gr (by assumption) pc_Di 1 (by decide) w_fl_Di_18 rfl (by rfl) d_Di_divide_23 ?_
  refine q_aload_n d_Di_divide_26 rfl ?_
  refine q_callV (As := [.ref a]) (c_Nu_copy l K hn3 hLa (by omega) (ha.mv (q_fr2 (by omega)) (q_fr2 (by omega))) (by have := ip_le (B := 2147483648) (by decide) (show 158 ≤ 160 by omega); omega)) w_cd_Nu_copy w_ini_Nu w_ml_Di_34 w_im_Nu_copy w_se_Nu_copy (by assumption) rfl hd_Nu_copy rfl (Nat.le_of_ble_eq_true rfl) d_Di_divide_27 (by decide) (by decide) (fun v σ2 hp => ?_)
  obtain ⟨rfl, k1, k2⟩ := hp
  refine q_aload_n d_Di_divide_30 rfl ?_
  refine q_aload_n d_Di_divide_31 rfl ?_
  refine q_callV (As := [.ref b]) (c_Nu_compareMagnitude l K hLa hLb (ha.mv (by rw [k2 _ (by omega) (by omega), q_fr2 (by omega)]) (by rw [k2 _ (by omega) (by omega), q_fr2 (by omega)])) (hb.mv (by rw [k2 _ (by omega) (by omega), q_fr2 (by omega)]) (by rw [k2 _ (by omega) (by omega), q_fr2 (by omega)]))) w_cd_Nu_compareMagnitude w_ini_Nu w_ml_Di_38 w_im_Nu_compareMagnitude w_se_Nu_compareMagnitude (by assumption) rfl hd_Nu_compareMagnitude rfl (Nat.le_of_ble_eq_true rfl) d_Di_divide_32 (by decide) (by decide) (fun v σ3 hp => ?_)
  obtain ⟨rfl, hσ⟩ := hp
  rw [hσ]
  clear hσ σ3
  refine q_if_ge (tgt := 39) (by have := sg3 ((x.natAbs : Int) - y.natAbs); omega) d_Di_divide_35 (by decide) (fun cc => ?_) (fun cc => ?_)
  · have hge : (y.natAbs : Int) ≤ x.natAbs := by have := sg3 ((x.natAbs : Int) - y.natAbs); omega
    refine q_aload_n d_Di_divide_39 rfl ?_
    refine q_gi (by assumption) pc_Nu 1 (by decide) w_fl_Di_30 rfl (by rfl) d_Di_divide_40 ?_
    refine q_topi (show _ = (n' : Int) by rw [k2 _ (by omega) (by omega), q_fr2 (by omega)]; exact g1) ?_
    refine q_iconst d_Di_divide_43 rfl ?_
    refine q_icmp_ne (tgt := 111) (by omega) (by omega) d_Di_divide_44 (by decide) (fun c1 => ?_) (fun c1 => ?_)
    · refine q_bipush d_Di_divide_111 (by decide) ?_
      refine q_aload_n d_Di_divide_113 rfl ?_
      refine q_gi (by assumption) pc_Nu 1 (by decide) w_fl_Di_30 rfl (by rfl) d_Di_divide_114 ?_
      refine q_topi (show _ = (n' : Int) by rw [k2 _ (by omega) (by omega), q_fr2 (by omega)]; exact g1) ?_
      refine q_imul d_Di_divide_117 ?_
      refine q_aload_n d_Di_divide_118 rfl ?_
      refine q_callV (As := []) (c_Nu_bitLength l K hLb (hb.mv (by rw [k2 _ (by omega) (by omega), q_fr2 (by omega)]) (by rw [k2 _ (by omega) (by omega), q_fr2 (by omega)]))) w_cd_Nu_bitLength w_ini_Nu w_ml_Di_57 w_im_Nu_bitLength w_se_Nu_bitLength (by assumption) rfl hd_Nu_bitLength rfl (Nat.le_of_ble_eq_true rfl) d_Di_divide_119 (by decide) (by decide) (fun v σ3 hp => ?_)
      obtain ⟨⟨β, rfl, -, hβ, -⟩, hσ⟩ := hp
      rw [hσ]
      clear hσ σ3
      obtain ⟨b0, b1, b2⟩ := hβ hy0
      have b3 : β - 1 < 31 * n' := p2_lt b1 (by rw [← B_pow]; have := (dv_range (B := 2147483648) (by decide) g4).2; omega)
      have b4 : 31 * (n' - 1) < β := p2_lt (by rw [← B_pow]; have := hu'.low gt (by omega); exact this) b2
      obtain ⟨s, hs⟩ : ∃ s : Nat, s = 31 * n' - β := ⟨_, rfl⟩
      have hs31 : s < 31 := by omega
      have hsp := ip_pos (B := 2) (by decide) s
      refine q_isub d_Di_divide_122 ?_
      refine q_topi (show _ = (s : Int) by omega) ?_
      refine q_ist_n_3 d_Di_divide_123 (by decide) rfl ?_
      refine q_aload_n d_Di_divide_124 rfl ?_
      refine q_gr (by assumption) pc_Di 2 (by decide) w_fl_Di_21 rfl (by rfl) d_Di_divide_125 ?_
      refine q_aload_n d_Di_divide_128 rfl ?_
      refine q_callV (As := [.ref b]) (c_Nu_copy l K hn5 hLb (by omega) (hb.mv (by rw [k2 _ (by omega) (by omega), q_fr2 (by omega)]) (by rw [k2 _ (by omega) (by omega), q_fr2 (by omega)])) (by have := ip_le (B := 2147483648) (by decide) (show 158 ≤ 160 by omega); omega)) w_cd_Nu_copy w_ini_Nu w_ml_Di_34 w_im_Nu_copy w_se_Nu_copy (by assumption) rfl hd_Nu_copy rfl (Nat.le_of_ble_eq_true rfl) d_Di_divide_129 (by decide) (by decide) (fun v σ3 hp => ?_)
      obtain ⟨rfl, k3, k4⟩ := hp
      refine q_aload_n d_Di_divide_132 rfl ?_
      refine q_gr (by assumption) pc_Di 2 (by decide) w_fl_Di_21 rfl (by rfl) d_Di_divide_133 ?_
      refine q_iload_n d_Di_divide_136 rfl ?_
      refine q_callV (As := [vi (s : Int)]) (c_Nu_shiftUp l K (u := 158) (p := s) hn5 k3 hy (by omega)) w_cd_Nu_shiftUp w_ini_Nu w_ml_Di_61 w_im_Nu_shiftUp w_se_Nu_shiftUp (by assumption) rfl hd_Nu_shiftUp rfl (Nat.le_of_ble_eq_true rfl) d_Di_divide_137 (by decide) (by decide) (fun v σ4 hp => ?_)
      obtain ⟨rfl, k5, k6⟩ := hp
      refine q_aload_n d_Di_divide_140 rfl ?_
      refine q_gr (by assumption) pc_Di 1 (by decide) w_fl_Di_18 rfl (by rfl) d_Di_divide_141 ?_
      refine q_iload_n d_Di_divide_144 rfl ?_
      refine q_callV (As := [vi (s : Int)]) (c_Nu_shiftUp l K (u := 158) (p := s) hn3 (k1.mv (by rw [k6 _ (by omega) (by omega), k4 _ (by omega) (by omega)]) (by rw [k6 _ (by omega) (by omega), k4 _ (by omega) (by omega)])) hx (by omega)) w_cd_Nu_shiftUp w_ini_Nu w_ml_Di_61 w_im_Nu_shiftUp w_se_Nu_shiftUp (by assumption) rfl hd_Nu_shiftUp rfl (Nat.le_of_ble_eq_true rfl) d_Di_divide_145 (by decide) (by decide) (fun v σ5 hp => ?_)
      obtain ⟨rfl, k7, k8⟩ := hp
      have k9 := k5.mv (k8 _ (by omega) (by omega)) (k8 _ (by omega) (by omega))
      obtain ⟨nm, uM, tM⟩ := k9
      obtain ⟨m, uR, tR⟩ := k7
      have e0 : (((2 : Int) ^ s).natAbs : Int) = 2 ^ s := by omega
      rw [Int.natAbs_mul, Int.natCast_mul, e0] at uM uR
      have e1 : 2 ^ (31 * n' - 1) ≤ (y.natAbs : Int) * 2 ^ s := by
        have h1 := Int.mul_le_mul_of_nonneg_right b1 (Int.le_of_lt hsp)
        rw [← Int.pow_add, show β - 1 + s = 31 * n' - 1 by omega] at h1
        exact h1
      have e2 : (y.natAbs : Int) * 2 ^ s < 2147483648 ^ n' := by
        have h1 := Int.mul_lt_mul_of_pos_right b2 hsp
        rw [← Int.pow_add, show β + s = 31 * n' by omega, ← B_pow] at h1
        exact h1
      have e3 : nm = n' := by
        have h1 := (uM.le tM (k := n')).mpr e2
        rcases Nat.lt_or_ge nm n' with h | h
        · exfalso
          have h2 := (uM.le tM (k := n' - 1)).mp (by omega)
          rw [B_pow] at h2
          have := ip_le (B := 2) (by decide) (show 31 * (n' - 1) ≤ 31 * n' - 1 by omega)
          omega
        · omega
      subst e3
      have e4 : (y.natAbs : Int) * 2 ^ s ≤ x.natAbs * 2 ^ s := Int.mul_le_mul_of_nonneg_right (by omega) (Int.le_of_lt hsp)
      have e5 : nm ≤ m := by
        rcases Nat.lt_or_ge m nm with h | h
        · exfalso
          have h2 := (uR.le tR (k := nm - 1)).mp (by omega)
          have h3 := uM.low tM (by omega)
          omega
        · exact h
      have e6 : m ≤ 159 := (uR.le tR).mpr (by
        have h1 := Int.mul_lt_mul_of_pos_right hx hsp
        have h2 := ip_le (B := 2) (by decide) (show s ≤ 31 by omega)
        have h3 := Int.mul_le_mul_of_nonneg_left h2 (Int.le_of_lt (ip_pos (B := 2147483648) (by decide) 158))
        rw [show (2 : Int) ^ 31 = 2147483648 by decide, ← Int.pow_succ] at h3
        exact Int.lt_of_lt_of_le h1 h3)
      obtain ⟨m1, m2, m3, m4, m5⟩ := uM
      obtain ⟨r1, r2, r3, r4, r5⟩ := uR
      refine q_aload_n d_Di_divide_148 rfl ?_
      refine q_gr (by assumption) pc_Di 2 (by decide) w_fl_Di_21 rfl (by rfl) d_Di_divide_149 ?_
      refine q_gi (by assumption) pc_Nu 1 (by decide) w_fl_Di_30 rfl (by rfl) d_Di_divide_152 ?_
      refine q_topi m1 ?_
      refine q_iconst d_Di_divide_155 rfl ?_
      refine q_icmp_lt (tgt := 189) (by omega) (by omega) d_Di_divide_156 (by decide) (fun c156 => absurd c156 (by omega)) (fun c156 => ?_)
      refine q_aload_n d_Di_divide_159 rfl ?_
      refine q_gr (by assumption) pc_Di 1 (by decide) w_fl_Di_18 rfl (by rfl) d_Di_divide_160 ?_
      refine q_gi (by assumption) pc_Nu 1 (by decide) w_fl_Di_30 rfl (by rfl) d_Di_divide_163 ?_
      refine q_topi r1 ?_
      refine q_aload_n d_Di_divide_166 rfl ?_
      refine q_gr (by assumption) pc_Di 2 (by decide) w_fl_Di_21 rfl (by rfl) d_Di_divide_167 ?_
      refine q_gi (by assumption) pc_Nu 1 (by decide) w_fl_Di_30 rfl (by rfl) d_Di_divide_170 ?_
      refine q_topi m1 ?_
      refine q_icmp_lt (tgt := 189) (by omega) (by omega) d_Di_divide_173 (by decide) (fun c173 => absurd c173 (by omega)) (fun c173 => ?_)
      refine q_aload_n d_Di_divide_176 rfl ?_
      refine q_gr (by assumption) pc_Di 1 (by decide) w_fl_Di_18 rfl (by rfl) d_Di_divide_177 ?_
      refine q_gi (by assumption) pc_Nu 1 (by decide) w_fl_Di_30 rfl (by rfl) d_Di_divide_180 ?_
      refine q_topi r1 ?_
      refine q_sipush d_Di_divide_183 (by decide) ?_
      refine q_icmp_lt (tgt := 190) (by omega) (by omega) d_Di_divide_186 (by decide) (fun c186 => ?_) (fun c186 => absurd c186 (by omega))
      refine q_aload_n d_Di_divide_190 rfl ?_
      refine q_gr (by assumption) pc_Di 1 (by decide) w_fl_Di_18 rfl (by rfl) d_Di_divide_191 ?_
      refine q_gr (by assumption) pc_Nu 0 (by decide) w_fl_Di_42 rfl (by rfl) d_Di_divide_194 ?_
      refine q_aload_n d_Di_divide_197 rfl ?_
      refine q_gr (by assumption) pc_Di 1 (by decide) w_fl_Di_18 rfl (by rfl) d_Di_divide_198 ?_
      refine q_gi (by assumption) pc_Nu 1 (by decide) w_fl_Di_30 rfl (by rfl) d_Di_divide_201 ?_
      refine q_topi r1 ?_
      refine q_iconst d_Di_divide_204 rfl ?_
      refine q_ias (m) (by assumption) (by omega) (by omega) (by omega) d_Di_divide_205 ?_
      refine q_aload_n d_Di_divide_206 rfl ?_
      refine q_gr (by assumption) pc_Di 1 (by decide) w_fl_Di_18 rfl (by rfl) d_Di_divide_207 ?_
      refine q_gi (by assumption) pc_Nu 1 (by decide) w_fl_Di_30 rfl (by rfl) d_Di_divide_210 ?_
      refine q_topi (show _ = (m : Int) by rw [q_up_a _ _ (by omega)]; exact r1) ?_
      refine q_aload_n d_Di_divide_213 rfl ?_
      refine q_gr (by assumption) pc_Di 2 (by decide) w_fl_Di_21 rfl (by rfl) d_Di_divide_214 ?_
      refine q_gi (by assumption) pc_Nu 1 (by decide) w_fl_Di_30 rfl (by rfl) d_Di_divide_217 ?_
      refine q_topi (show _ = (nm : Int) by rw [q_up_a _ _ (by omega)]; exact m1) ?_
      refine q_isub d_Di_divide_220 ?_
      refine q_topi (show _ = ((m - nm : Nat) : Int) by omega) ?_
      refine q_ist_4 d_Di_divide_221 (by decide) rfl ?_
      refine q_aload_n d_Di_divide_223 rfl ?_
      refine q_gr (by assumption) pc_Di 0 (by decide) w_fl_Di_12 rfl (by rfl) d_Di_divide_224 ?_
      refine q_iload d_Di_divide_227 rfl ?_
      refine q_iconst d_Di_divide_229 rfl ?_
      refine q_iadd d_Di_divide_230 ?_
      refine q_topi (show _ = ((m - nm + 1 : Nat) : Int) by omega) ?_
      refine q_pi (by assumption) pc_Nu 1 (by decide) w_fl_Di_30 rfl rfl rfl rfl (by rfl) d_Di_divide_231 ?_
      refine q_iload d_Di_divide_234 rfl ?_
      refine q_ist_5 d_Di_divide_236 (by decide) rfl ?_
      have hot : ∀ q, (q ≤ c ∨ c + 6 < q) → q_up (q_up σ5 (c + 4) m 0) (c + 1) 1 ((m - nm + 1 : Nat) : Int) q = σ q := fun q hq => by rw [q_up_a _ _ (by omega), q_up_a _ _ (by omega), k8 q (by omega) (by omega), k6 q (by omega) (by omega), k4 q (by omega) (by omega), k2 q (by omega) (by omega), q_fr2 (by omega)]
      have hyp : 0 < (y.natAbs : Int) := by omega
      have hrow : ∀ i, i < m → q_up (q_up σ5 (c + 4) m 0) (c + 1) 1 ((m - nm + 1 : Nat) : Int) (c + 4) i = σ5 (c + 4) i := fun i hi => by rw [q_up_a _ _ (by omega), q_up_k _ _ (by omega)]
      refine q_post (fun v σ' h => ?_) (dv_tail l K (n := nm) (pl := m - nm) (s := s) (x := x) (y := y) (X := x.natAbs * 2 ^ s) (V := y.natAbs * 2 ^ s) hL hLa hLb (by omega) (by omega) (by omega) (by omega) hs31 (by rw [hot _ (by omega)]; exact ha.sgn) (by rw [hot _ (by omega)]; exact hb.sgn) (sg_pm (fun h => by rw [h] at e4; simp at e4; have := Int.mul_pos hyp hsp; omega)) (sg_pm hy0) (q_up_self _ _ _ _) (by rw [q_up_a _ _ (by omega), q_up_a _ _ (by omega)]; exact m1) (by rw [q_up_a _ _ (by omega), q_up_a _ _ (by omega)]; exact m4) (by rw [q_up_a _ _ (by omega), q_up_a _ _ (by omega)]; exact dv_norm m4 (by omega) m5 e1) (by rw [q_up_a _ _ (by omega), q_up_a _ _ (by omega)]; exact m5) (by rw [q_up_a _ _ (by omega), q_up_a _ _ (by omega), r2, Int.sign_mul, Int.sign_eq_one_of_pos hsp, Int.mul_one]) (fun i hi => ?_) (by rw [show m - nm + nm = m by omega, q_up_a _ _ (by omega), q_up_self]) (by rw [show nm + (m - nm) + 1 = m + 1 by omega, dv_s, dv_congr (h := σ5 (c + 4)) (fun i hi => hrow i hi), q_up_a _ _ (by omega), q_up_self, Int.zero_mul, Int.add_zero]; exact r5) e4)
      · obtain ⟨h1, h2, h3, h4⟩ := h
        refine ⟨h1, ?_, ?_, fun q hq => (h4 q hq).trans (hot q hq)⟩
        · rw [td_eq]
          rw [Int.mul_ediv_mul_of_pos_left _ _ hsp] at h2
          exact h2
        · rw [tm_eq]
          rw [em_mulR hsp, Int.mul_ediv_cancel _ (by omega)] at h3
          exact h3
      · by_cases g : i = m
        · subst g; rw [q_up_a _ _ (by omega), q_up_self]; omega
        · rw [hrow i (by omega)]; exact r4 i (by omega)
    · refine q_aload_n d_Di_divide_47 rfl ?_
      refine q_gr (by assumption) pc_Di 0 (by decide) w_fl_Di_12 rfl (by rfl) d_Di_divide_48 ?_
      refine q_aload_n d_Di_divide_51 rfl ?_
      refine q_callV (As := [.ref a]) (c_Nu_copy l K hn1 hLa (by omega) (ha.mv (by rw [k2 _ (by omega) (by omega), q_fr2 (by omega)]) (by rw [k2 _ (by omega) (by omega), q_fr2 (by omega)])) (by have := ip_le (B := 2147483648) (by decide) (show 158 ≤ 160 by omega); omega)) w_cd_Nu_copy w_ini_Nu w_ml_Di_34 w_im_Nu_copy w_se_Nu_copy (by assumption) rfl hd_Nu_copy rfl (Nat.le_of_ble_eq_true rfl) d_Di_divide_52 (by decide) (by decide) (fun v σ3 hp => ?_)
      obtain ⟨rfl, k3, k4⟩ := hp
      have hy1 : σ (b + 1) 0 = y.natAbs := by rw [← g5, show n' = 1 by omega]; simp [dv]
      refine q_aload_n d_Di_divide_55 rfl ?_
      refine q_gr (by assumption) pc_Di 0 (by decide) w_fl_Di_12 rfl (by rfl) d_Di_divide_56 ?_
      refine q_aload_n d_Di_divide_59 rfl ?_
      refine q_gr (by assumption) pc_Nu 0 (by decide) w_fl_Di_42 rfl (by rfl) d_Di_divide_60 ?_
      refine q_iconst d_Di_divide_63 rfl ?_
      refine q_ial (0) (by assumption) (by omega) (by omega) (by omega) d_Di_divide_64 ?_
      refine q_topi (show _ = (y.natAbs : Int) by rw [k4 _ (by omega) (by omega), k2 _ (by omega) (by omega), q_fr2 (by omega)]; exact hy1) ?_
      refine q_callV (As := [vi (y.natAbs : Int)]) (c_Nu_divideSmall l K hn1 k3 (by have := g4 0 (by omega); omega)) w_cd_Nu_divideSmall w_ini_Nu w_ml_Di_46 w_im_Nu_divideSmall w_se_Nu_divideSmall (by assumption) rfl hd_Nu_divideSmall rfl (Nat.le_of_ble_eq_true rfl) d_Di_divide_65 (by decide) (by decide) (fun v σ4 hp => ?_)
      obtain ⟨rfl, k5, k6⟩ := hp
      refine q_ist_n_3 d_Di_divide_68 (by decide) rfl ?_
      refine q_aload_n d_Di_divide_69 rfl ?_
      refine q_gr (by assumption) pc_Di 0 (by decide) w_fl_Di_12 rfl (by rfl) d_Di_divide_70 ?_
      refine q_aload_n d_Di_divide_73 rfl ?_
      refine q_gr (by assumption) pc_Di 0 (by decide) w_fl_Di_12 rfl (by rfl) d_Di_divide_74 ?_
      refine q_gi (by assumption) pc_Nu 2 (by decide) w_fl_Di_50 rfl (by rfl) d_Di_divide_77 ?_
      refine q_topi k5.sgn ?_
      refine q_aload_n d_Di_divide_80 rfl ?_
      refine q_gi (by assumption) pc_Nu 2 (by decide) w_fl_Di_50 rfl (by rfl) d_Di_divide_81 ?_
      refine q_topi (show _ = y.sign by rw [k6 _ (by omega) (by omega), k4 _ (by omega) (by omega), k2 _ (by omega) (by omega), q_fr2 (by omega)]; exact hb.sgn) ?_
      refine q_imul d_Di_divide_84 ?_
      refine q_pi (by assumption) pc_Nu 2 (by decide) w_fl_Di_50 rfl rfl rfl rfl (by rfl) d_Di_divide_85 ?_
      refine q_aload_n d_Di_divide_88 rfl ?_
      refine q_gr (by assumption) pc_Di 1 (by decide) w_fl_Di_18 rfl (by rfl) d_Di_divide_89 ?_
      refine q_aload_n d_Di_divide_92 rfl ?_
      refine q_gi (by assumption) pc_Nu 2 (by decide) w_fl_Di_50 rfl (by rfl) d_Di_divide_93 ?_
      refine q_topi (show _ = x.sign by rw [q_up_a _ _ (by omega), k6 _ (by omega) (by omega), k4 _ (by omega) (by omega), k2 _ (by omega) (by omega), q_fr2 (by omega)]; exact ha.sgn) ?_
      have r1 := Int.emod_nonneg (x.natAbs : Int) (show (y.natAbs : Int) ≠ 0 by omega)
      have r2 := Int.emod_lt_of_pos (x.natAbs : Int) (show 0 < (y.natAbs : Int) by omega)
      have r3 := g4 0 (by omega)
      have r4 : (y.natAbs : Int) < 2147483648 := by omega
      refine q_jnl1 (V := x.tmod y) 107 (fun jn => ?_) ?_
      · refine q_if_ge (tgt := 105) (by have := sg3 x; omega) d_Di_divide_96 (by decide) (fun c96 => ?_) (fun c96 => ?_)
        · refine q_iload_n d_Di_divide_105 rfl ?_
          refine q_i2l (by omega) d_Di_divide_106 ?_
          exact jn _ (by rw [tm_eq]; have := sg3 x; rcases this with h | h | h; rw [h.2]; omega; rw [h.2, h.1]; simp; omega)
        · refine q_iload_n d_Di_divide_99 rfl ?_
          refine q_i2l (by omega) d_Di_divide_100 ?_
          refine q_lneg d_Di_divide_101 ?_
          refine q_goto (tgt := 107) d_Di_divide_102 (by decide) ?_
          exact jn _ (by rw [tm_eq]; have := sg3 x; rcases this with h | h | h; omega; omega; rw [h.2]; omega)
      · refine q_callV (As := [vl (x.tmod y)]) (q_Nu_setLong l K _ hn3 (by decide) (by rw [tm_eq]; have := sg3 x; rcases this with h | h | h <;> rw [h.2] <;> omega)) w_cd_Nu_setLong w_ini_Nu w_ml_Di_53 w_im_Nu_setLong w_se_Nu_setLong (by assumption) rfl hd_Nu_setLong rfl (Nat.le_of_ble_eq_true rfl) d_Di_divide_107 (by decide) (by decide) (fun v σ5 hp => ?_)
        obtain ⟨rfl, k7, k8⟩ := hp
        exact q_vret rfl (⟨rfl, by
          have h9 := nV_mulsg k5 (sg_pm hy0)
          rw [show x.sign * ((x.natAbs : Int) / y.natAbs) * y.sign = x.tdiv y by rw [td_eq]; grind] at h9
          exact h9.mv (k8 _ (by omega) (by omega)) (k8 _ (by omega) (by omega)), k7, fun q hq => by rw [k8 q (by omega) (by omega), q_up_a _ _ (by omega), k6 q (by omega) (by omega), k4 q (by omega) (by omega), k2 q (by omega) (by omega), q_fr2 (by omega)]⟩) d_Di_divide_110
  · have hlt : (x.natAbs : Int) < y.natAbs := by have := sg3 ((x.natAbs : Int) - y.natAbs); omega
    exact q_vret rfl (⟨rfl, by rw [td_eq, Int.ediv_eq_zero_of_lt (by omega) hlt, Int.mul_zero]; exact (nV_clear σ (c + 1) 160).mv (k2 _ (by omega) (by omega)) (k2 _ (by omega) (by omega)), by rw [tm_eq, Int.emod_eq_of_lt (by omega) hlt, Int.sign_mul_natAbs]; exact k1, fun q hq => by rw [k2 q (by omega) (by omega), q_fr2 (by omega)]⟩) d_Di_divide_38
