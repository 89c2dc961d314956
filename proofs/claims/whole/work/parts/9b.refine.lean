/-! THE REFERENCE: refines, refinesTo -/
/-- the sign just above the low end, as sideOf tells it -/
def sdv (P : Nat → Int) (n : Nat) (X : Int) (ex : Nat) : Int := if (hv P n X ex (n + 1)).sign = 0 then (hv (fun k => P (k + 1) * ((k : Int) + 1)) (n - 1) X ex n).sign else (hv P n X ex (n + 1)).sign
/-- the sign at the middle of cell C of level D -/
def mdv (P : Nat → Int) (n : Nat) (C : Int) (D : Nat) : Int := (hv P n (lowv (C * 2 ^ 1 + 1 * 1) (D + 1)) (D + 1 - 44) (n + 1)).sign
/-- the next cell, and whether its low end is the root -/
def rfn (P : Nat → Int) (n : Nat) (C : Int) (D : Nat) (x : Int) : Int × Int := if x = 0 then (if mdv P n C D = 0 then (C * 2 ^ 1 + 1 * 1, 1) else if mdv P n C D = sdv P n (lowv C D) (D - 44) then (C * 2 ^ 1 + 1 * 1, 0) else (C * 2 ^ 1 + 1 * 1 + -1 * 1, 0)) else (C * 2 ^ 1, x)
/-- what must fit -/
def bds (P : Nat → Int) (n cu u v : Nat) (C : Int) (D : Nat) : Prop := (C.natAbs : Int) < 65536 ^ (cu - 1) ∧ ((lowv C D).natAbs : Int) < 65536 ^ v ∧ (∀ i, i ≤ n → ((hv P n (lowv C D) (D - 44) i).natAbs : Int) < 65536 ^ u) ∧ (∀ i, i ≤ n - 1 → ((hv (fun k => P (k + 1) * ((k : Int) + 1)) (n - 1) (lowv C D) (D - 44) i).natAbs : Int) < 65536 ^ u) ∧ ((lowv (C * 2 ^ 1 + 1 * 1) (D + 1)).natAbs : Int) < 65536 ^ v ∧ ∀ i, i ≤ n → ((hv P n (lowv (C * 2 ^ 1 + 1 * 1) (D + 1)) (D + 1 - 44) i).natAbs : Int) < 65536 ^ u
set_option maxHeartbeats 4000000 in
set_option maxRecDepth 100000 in
theorem c_Mo_refines (l : Launch) (K : pw_K) {L : q_L} {σ : q_S} {m p i n D cu u v c : Nat} {C x : Int} {P : Nat → Int} (hL : mL L m) (hp : p < 2) (hi : i < 8) (hn : n ≤ 8) (hn1 : 1 ≤ n) (hdeg : σ (m + 4) (2 + p) = n) (hP : ∀ k, k ≤ n → rV σ m (9 * (2 + p) + k) (P k)) (hPb : ∀ k, k ≤ n → ((P k).natAbs : Int) < 65536 ^ c) (hC : rV σ m (140 + 8 * p + i) C) (hD : σ (m + 5) (8 * p + i) = D) (hx : σ (m + 6) (8 * p + i) = x) (hx01 : x = 0 ∨ x = 1) (hb : bds P n cu u v C D) (hcu1 : (D + 1) / 16 + 2 ≤ cu) (hcu : cu + 6 ≤ 1024) (huv : u + v ≤ 1023) (hcw : c + (D + 1) * n / 16 + 2 ≤ 1023) (hD9 : D < 90000) : q_C l K L y_Mo_refines b_Mo_refines 8 none 5 [.ref m, vi p, vi i] σ (fun r σ' => r = none ∧ rV σ' m (140 + 8 * p + i) (rfn P n C D x).1 ∧ σ' (m + 5) (8 * p + i) = (D : Int) + 1 ∧ σ' (m + 6) (8 * p + i) = (rfn P n C D x).2 ∧ (∀ q, q ≠ m + 1 → q ≠ m + 2 → q ≠ m + 3 → q ≠ m + 4 → q ≠ m + 5 → q ≠ m + 6 → q ≠ m + 9 → σ' q = σ q) ∧ (∀ j, j ≠ 7 → σ' (m + 4) j = σ (m + 4) j) ∧ (∀ k, k ≠ 8 * p + i → σ' (m + 5) k = σ (m + 5) k ∧ σ' (m + 6) k = σ (m + 6) k) ∧ (∀ r, r ≠ 96 → r ≠ 103 → r ≠ 104 → r ≠ 105 → r ≠ 110 → r ≠ 111 → (r < 63 ∨ 71 ≤ r) → r ≠ 140 + 8 * p + i → rE σ σ' m r)) := by
  obtain ⟨hM0, hM1, hM2, hM3, hM4, hM5, hM6, hM7, hM8, hM9⟩ := hL
  obtain ⟨b1, b2, b3, b4, b5, b6⟩ := hb
  have hc2 : ((C * 2 ^ 1).natAbs : Int) < 65536 ^ cu := by
    have h3 : (65536 : Int) ^ cu = 65536 ^ (cu - 1) * 65536 := by rw [← Int.pow_succ]; congr 1; omega
    generalize (65536 : Int) ^ cu = E1 at *
    generalize (65536 : Int) ^ (cu - 1) = E2 at *
    omega
  have hc3 : ((C * 2 ^ 1 + 1 * 1).natAbs : Int) < 65536 ^ (cu + 1) := by
    have h3 : (65536 : Int) ^ (cu + 1) = 65536 ^ cu * 65536 := Int.pow_succ _ _
    have h4 := ip_pos (B := 65536) (by decide) cu
    generalize (65536 : Int) ^ (cu + 1) = E1 at *
    generalize (65536 : Int) ^ cu = E2 at *
    omega
  refine q_start [some (.ref m), some (vi p), some (vi i), none, none, none, none, none] (by decide) (Nat.le_of_ble_eq_true rfl) (fun q h => h) ?_
  refine q_bipush d_Mo_refines_0 (by decide) ?_
  refine q_iload_n d_Mo_refines_2 rfl ?_
  refine q_imul d_Mo_refines_3 ?_
  refine q_iload_n d_Mo_refines_4 rfl ?_
  refine q_iadd d_Mo_refines_5 ?_
  refine q_topi (show _ = ((8 * p + i : Nat) : Int) by omega) ?_
  refine q_ist_n_3 d_Mo_refines_6 (by decide) rfl ?_
  refine q_aload_n d_Mo_refines_7 rfl ?_
  refine q_iload_n d_Mo_refines_8 rfl ?_
  refine q_iload_n d_Mo_refines_9 rfl ?_
  refine q_callV (As := [vi p, vi i]) (c_Mo_cell l K (p := p) (i := i) hp hi) w_cd_Mo_cell w_ini_Mo w_ml_Mo_115 w_im_Mo_cell w_se_Mo_cell (by assumption) rfl hd_Mo_cell rfl (Nat.le_of_ble_eq_true rfl) d_Mo_refines_10 (by decide) (by decide) (fun v σ9 hp => ?_)
  obtain ⟨rfl, hσ⟩ := hp
  rw [hσ]
  clear hσ σ9
  refine q_ist_4 d_Mo_refines_13 (by decide) rfl ?_
  refine q_aload_n d_Mo_refines_15 rfl ?_
  refine q_bipush d_Mo_refines_16 (by decide) ?_
  refine q_lconst (z := 1) d_Mo_refines_18 (by decide) ?_
  refine q_callV (As := [vi 110, vl 1]) (q_Mo_set l K σ (r := 110) ⟨hM0, hM1, hM2, hM3, hM4, hM5, hM6, hM7, hM8, hM9⟩ (by decide) (by omega)) w_cd_Mo_set w_ini_Mo w_ml_Mo_72 w_im_Mo_set w_se_Mo_set (by assumption) rfl hd_Mo_set rfl (Nat.le_of_ble_eq_true rfl) d_Mo_refines_19 (by decide) (by decide) (fun v σ1 hp => ?_)
  obtain ⟨rfl, a1, a2, -, a3⟩ := hp
  refine q_aload_n d_Mo_refines_22 rfl ?_
  refine q_gr (by assumption) pc_Mo 6 (by decide) w_fl_Mo_26 rfl (by rfl) d_Mo_refines_23 ?_
  refine q_iload_n d_Mo_refines_26 rfl ?_
  refine q_zal (8 * p + i) (by assumption) (by omega) (by omega) (by omega) d_Mo_refines_27 ?_
  refine q_topi (show _ = x by rw [a2 _ (by omega) (by omega) (by omega) (by omega) ]; exact hx) ?_
  refine q_if_eq (tgt := 51) (by omega) d_Mo_refines_28 (by decide) (fun cx => ?_) (fun cx => ?_)
  · refine q_aload_n d_Mo_refines_51 rfl ?_
    refine q_bipush d_Mo_refines_52 (by decide) ?_
    refine q_iload d_Mo_refines_54 rfl ?_
    refine q_aload_n d_Mo_refines_56 rfl ?_
    refine q_gr (by assumption) pc_Mo 5 (by decide) w_fl_Mo_23 rfl (by rfl) d_Mo_refines_57 ?_
    refine q_iload_n d_Mo_refines_60 rfl ?_
    refine q_ial (8 * p + i) (by assumption) (by omega) (by omega) (by omega) d_Mo_refines_61 ?_
    refine q_topi (show _ = (D : Int) by rw [a2 _ (by omega) (by omega) (by omega) (by omega) ]; exact hD) ?_
    refine q_callV (As := [vi 111, vi ((140 + 8 * p + i : Nat) : Int), vi D]) (c_Mo_lower l K (o := 111) (c := 140 + 8 * p + i) (j := D) (u := cu) ⟨hM0, hM1, hM2, hM3, hM4, hM5, hM6, hM7, hM8, hM9⟩ (by decide) (by omega) (by decide) (by omega) (hC.mv (a3 _ (by omega))) (l16 b1 (by omega)) (by omega) (by omega)) w_cd_Mo_lower w_ini_Mo w_ml_Mo_111 w_im_Mo_lower w_se_Mo_lower (by assumption) rfl hd_Mo_lower rfl (Nat.le_of_ble_eq_true rfl) d_Mo_refines_62 (by decide) (by decide) (fun v σ2 hp => ?_)
    obtain ⟨rfl, k1, k2, k3⟩ := hp
    refine q_ist_5 d_Mo_refines_65 (by decide) rfl ?_
    refine q_aload_n d_Mo_refines_67 rfl ?_
    refine q_iconst d_Mo_refines_68 rfl ?_
    refine q_iload_n d_Mo_refines_69 rfl ?_
    refine q_iadd d_Mo_refines_70 ?_
    refine q_topi (show _ = ((2 + p : Nat) : Int) by omega) ?_
    refine q_bipush d_Mo_refines_71 (by decide) ?_
    refine q_iload d_Mo_refines_73 rfl ?_
    refine q_callV (As := [vi ((2 + p : Nat) : Int), vi 111, vi ((D - 44 : Nat) : Int)]) (c_Mo_sideOf l K (p := 2 + p) (w := 111) (n := n) (ex := D - 44) (u := u) (v := v) (c := c) (P := P) ⟨hM0, hM1, hM2, hM3, hM4, hM5, hM6, hM7, hM8, hM9⟩ (by omega) (by decide) (by omega) hn hn1 (by omega) (by rw [k2 _ (by omega) (by omega) (by omega) (by omega) , a2 _ (by omega) (by omega) (by omega) (by omega) ]; exact hdeg) (fun k hk => ((hP k hk).mv (a3 _ (by omega))).mv (k3 _ (by omega) (by omega))) k1 b2 hPb b3 b4 huv (by have := Nat.div_le_div_right (c := 16) (Nat.mul_le_mul_right n (show D - 44 ≤ D + 1 by omega)); omega)) w_cd_Mo_sideOf w_ini_Mo w_ml_Mo_137 w_im_Mo_sideOf w_se_Mo_sideOf (by assumption) rfl hd_Mo_sideOf rfl (Nat.le_of_ble_eq_true rfl) d_Mo_refines_75 (by decide) (by decide) (fun v σ3 hp => ?_)
    obtain ⟨rfl, k4, k5, k6⟩ := hp
    refine q_topi (show _ = sdv P n (lowv C D) (D - 44) from rfl) ?_
    refine q_ist_6 d_Mo_refines_78 (by decide) rfl ?_
    refine q_aload_n d_Mo_refines_80 rfl ?_
    refine q_iload d_Mo_refines_81 rfl ?_
    refine q_iload d_Mo_refines_83 rfl ?_
    refine q_iconst d_Mo_refines_85 rfl ?_
    refine q_callV (As := [vi ((140 + 8 * p + i : Nat) : Int), vi ((140 + 8 * p + i : Nat) : Int), vi 1]) (c_Mo_lift l K (r := 140 + 8 * p + i) (i := 140 + 8 * p + i) (p := 1) (u := cu - 1) ⟨hM0, hM1, hM2, hM3, hM4, hM5, hM6, hM7, hM8, hM9⟩ (by omega) (by omega) (((hC.mv (a3 _ (by omega))).mv (k3 _ (by omega) (by omega))).mv (k6 _ (by omega) (by omega) (by omega) (by omega) )) b1 (by omega)) w_cd_Mo_lift w_ini_Mo w_ml_Mo_108 w_im_Mo_lift w_se_Mo_lift (by assumption) rfl hd_Mo_lift rfl (Nat.le_of_ble_eq_true rfl) d_Mo_refines_86 (by decide) (by decide) (fun v σ4 hp => ?_)
    obtain ⟨rfl, k7, k8, k9⟩ := hp
    refine q_aload_n d_Mo_refines_89 rfl ?_
    refine q_gr (by assumption) pc_Mo 5 (by decide) w_fl_Mo_23 rfl (by rfl) d_Mo_refines_90 ?_
    refine q_iload_n d_Mo_refines_93 rfl ?_
    refine q_dup2 d_Mo_refines_94 rfl rfl ?_
    refine q_ial (8 * p + i) (by assumption) (by omega) (by omega) (by omega) d_Mo_refines_95 ?_
    refine q_topi (show _ = (D : Int) by rw [k8 _ (by omega) (by omega) (by omega) (by omega) , k4 _ (by omega) (by omega) (by omega) (by omega) (by omega) , k2 _ (by omega) (by omega) (by omega) (by omega) , a2 _ (by omega) (by omega) (by omega) (by omega) ]; exact hD) ?_
    refine q_iconst d_Mo_refines_96 rfl ?_
    refine q_iadd d_Mo_refines_97 ?_
    refine q_ias (8 * p + i) (by assumption) (by omega) (by omega) (by omega) d_Mo_refines_98 ?_
    refine q_aload_n d_Mo_refines_99 rfl ?_
    refine q_iload d_Mo_refines_100 rfl ?_
    refine q_iload d_Mo_refines_102 rfl ?_
    refine q_bipush d_Mo_refines_104 (by decide) ?_
    refine q_iconst d_Mo_refines_106 rfl ?_
    refine q_callV (As := [vi ((140 + 8 * p + i : Nat) : Int), vi ((140 + 8 * p + i : Nat) : Int), vi 110, vi 1]) (c_Mo_sum l K (r := 140 + 8 * p + i) (i := 140 + 8 * p + i) (j := 110) (u := cu) ⟨hM0, hM1, hM2, hM3, hM4, hM5, hM6, hM7, hM8, hM9⟩ (by omega) (by omega) (by decide) (k7.mv ⟨fun y hy => mr_o _ _ (by omega), by rw [q_up_a _ _ (by omega)], by rw [q_up_a _ _ (by omega)]⟩) (((((a1.mv (k3 110 (by decide) (by decide))).mv (k6 110 (by decide) (by decide) (by decide) (by decide))).mv (k9 110 (by omega))).mv ⟨fun y hy => mr_o _ _ (by omega), by rw [q_up_a _ _ (by omega)], by rw [q_up_a _ _ (by omega)]⟩)) (Or.inl rfl) hc2 (by have := ip_le (B := 65536) (by decide) (show 1 ≤ cu by omega); omega) (by omega)) w_cd_Mo_sum w_ini_Mo w_ml_Mo_83 w_im_Mo_sum w_se_Mo_sum (by assumption) rfl hd_Mo_sum rfl (Nat.le_of_ble_eq_true rfl) d_Mo_refines_107 (by decide) (by decide) (fun v σ5 hp => ?_)
    obtain ⟨rfl, k10, k11, k12⟩ := hp
    refine q_aload_n d_Mo_refines_110 rfl ?_
    refine q_bipush d_Mo_refines_111 (by decide) ?_
    refine q_iload d_Mo_refines_113 rfl ?_
    refine q_aload_n d_Mo_refines_115 rfl ?_
    refine q_gr (by assumption) pc_Mo 5 (by decide) w_fl_Mo_23 rfl (by rfl) d_Mo_refines_116 ?_
    refine q_iload_n d_Mo_refines_119 rfl ?_
    refine q_ial (8 * p + i) (by assumption) (by omega) (by omega) (by omega) d_Mo_refines_120 ?_
    refine q_topi (show _ = ((D + 1 : Nat) : Int) by rw [k11 _ (by omega) (by omega) (by omega) (by omega) , q_up_self]; omega) ?_
    refine q_callV (As := [vi 111, vi ((140 + 8 * p + i : Nat) : Int), vi ((D + 1 : Nat) : Int)]) (c_Mo_lower l K (o := 111) (c := 140 + 8 * p + i) (j := D + 1) (u := cu + 1) ⟨hM0, hM1, hM2, hM3, hM4, hM5, hM6, hM7, hM8, hM9⟩ (by decide) (by omega) (by decide) (by omega) k10 hc3 (by omega) (by omega)) w_cd_Mo_lower w_ini_Mo w_ml_Mo_111 w_im_Mo_lower w_se_Mo_lower (by assumption) rfl hd_Mo_lower rfl (Nat.le_of_ble_eq_true rfl) d_Mo_refines_121 (by decide) (by decide) (fun v σ6 hp => ?_)
    obtain ⟨rfl, k13, k14, k15⟩ := hp
    refine q_ist_5 d_Mo_refines_124 (by decide) rfl ?_
    refine q_aload_n d_Mo_refines_126 rfl ?_
    refine q_iconst d_Mo_refines_127 rfl ?_
    refine q_iload_n d_Mo_refines_128 rfl ?_
    refine q_iadd d_Mo_refines_129 ?_
    refine q_topi (show _ = ((2 + p : Nat) : Int) by omega) ?_
    refine q_bipush d_Mo_refines_130 (by decide) ?_
    refine q_iload d_Mo_refines_132 rfl ?_
    have hrow : ∀ r, r ≠ 96 → r ≠ 103 → r ≠ 104 → r ≠ 105 → r ≠ 110 → r ≠ 111 → (r < 63 ∨ 71 ≤ r) → r ≠ 140 + 8 * p + i → rE σ σ6 m r := fun r h1 h2 h3 h4 h5 h6 h7 h8 => ((((((a3 r h5).trans (k3 r h6 h4)).trans (k6 r h1 h2 h3 h7)).trans (k9 r h8)).trans ⟨fun y hy => mr_o _ _ (by omega), by rw [q_up_a _ _ (by omega)], by rw [q_up_a _ _ (by omega)]⟩).trans (k12 r h8)).trans (k15 r h6 h4)
    have hq : ∀ q, q ≠ m + 1 → q ≠ m + 2 → q ≠ m + 3 → q ≠ m + 4 → q ≠ m + 5 → q ≠ m + 9 → σ6 q = σ q := fun q h1 h2 h3 h4 h5 h6 => by rw [k14 q h1 h2 h3 h6, k11 q h1 h2 h3 h6, q_up_a _ _ h5, k8 q h1 h2 h3 h6, k4 q h1 h2 h3 h4 h6, k2 q h1 h2 h3 h6, a2 q h1 h2 h3 h6]
    have hdg : ∀ j, j ≠ 7 → σ6 (m + 4) j = σ (m + 4) j := fun j hj => by rw [k14 _ (by omega) (by omega) (by omega) (by omega) , k11 _ (by omega) (by omega) (by omega) (by omega) , q_up_a _ _ (by omega), k8 _ (by omega) (by omega) (by omega) (by omega) , k5 j hj, k2 _ (by omega) (by omega) (by omega) (by omega) , a2 _ (by omega) (by omega) (by omega) (by omega) ]
    have h5 : ∀ k, k ≠ 8 * p + i → σ6 (m + 5) k = σ (m + 5) k := fun k hk => by rw [k14 _ (by omega) (by omega) (by omega) (by omega) , k11 _ (by omega) (by omega) (by omega) (by omega) , q_up_k _ _ hk, k8 _ (by omega) (by omega) (by omega) (by omega) , k4 _ (by omega) (by omega) (by omega) (by omega) (by omega) , k2 _ (by omega) (by omega) (by omega) (by omega) , a2 _ (by omega) (by omega) (by omega) (by omega) ]
    have h5s : σ6 (m + 5) (8 * p + i) = (D : Int) + 1 := by rw [k14 _ (by omega) (by omega) (by omega) (by omega) , k11 _ (by omega) (by omega) (by omega) (by omega) , q_up_self]
    refine q_callV (As := [vi ((2 + p : Nat) : Int), vi 111, vi ((D + 1 - 44 : Nat) : Int)]) (c_Mo_signOf l K σ6 (p := 2 + p) (w := 111) (n := n) (ex := D + 1 - 44) (u := u) (v := v) (c := c) (P := P) ⟨hM0, hM1, hM2, hM3, hM4, hM5, hM6, hM7, hM8, hM9⟩ (by omega) (by decide) (by decide) (by decide) hn (by omega) (by rw [hdg _ (by omega)]; exact hdeg) (fun k hk => (hP k hk).mv (hrow _ (by omega) (by omega) (by omega) (by omega) (by omega) (by omega) (by omega) (by omega) )) k13 b5 hPb b6 huv (by have := Nat.div_le_div_right (c := 16) (Nat.mul_le_mul_right n (show D + 1 - 44 ≤ D + 1 by omega)); omega)) w_cd_Mo_signOf w_ini_Mo w_ml_Mo_131 w_im_Mo_signOf w_se_Mo_signOf (by assumption) rfl hd_Mo_signOf rfl (Nat.le_of_ble_eq_true rfl) d_Mo_refines_134 (by decide) (by decide) (fun v σ7 hp => ?_)
    obtain ⟨rfl, k16, k17⟩ := hp
    refine q_topi (show _ = mdv P n C D from rfl) ?_
    have r1 : -1 ≤ mdv P n C D ∧ mdv P n C D ≤ 1 := sgn_b _
    have r2 : -1 ≤ sdv P n (lowv C D) (D - 44) ∧ sdv P n (lowv C D) (D - 44) ≤ 1 := by unfold sdv; split <;> exact sgn_b _
    have hC7 := (k10.mv (k15 _ (by omega) (by omega))).mv (k17 _ (by omega) (by omega))
    refine q_ist_7 d_Mo_refines_137 (by decide) rfl ?_
    refine q_iload d_Mo_refines_139 rfl ?_
    refine q_if_ne (tgt := 154) (by omega) d_Mo_refines_141 (by decide) (fun cm => ?_) (fun cm => ?_)
    · refine q_iload d_Mo_refines_154 rfl ?_
      refine q_iload d_Mo_refines_156 rfl ?_
      refine q_icmp_eq (tgt := 172) (by omega) (by omega) d_Mo_refines_158 (by decide) (fun ce => ?_) (fun ce => ?_)
      · exact q_vret rfl (⟨rfl, by rw [show rfn P n C D x = (C * 2 ^ 1 + 1 * 1, 0) by unfold rfn; rw [if_pos cx, if_neg cm, if_pos ce]]; exact hC7, by rw [k16 _ (by omega) (by omega) (by omega) (by omega) ]; exact h5s, by rw [show rfn P n C D x = (C * 2 ^ 1 + 1 * 1, 0) by unfold rfn; rw [if_pos cx, if_neg cm, if_pos ce], k16 _ (by omega) (by omega) (by omega) (by omega) , hq _ (by omega) (by omega) (by omega) (by omega) (by omega) (by omega) , hx, cx], fun q h1 h2 h3 h4 h5 h6 h7 => by rw [k16 q h1 h2 h3 h7]; exact hq q h1 h2 h3 h4 h5 h7, fun j hj => by rw [k16 _ (by omega) (by omega) (by omega) (by omega) ]; exact hdg j hj, fun k hk => ⟨by rw [k16 _ (by omega) (by omega) (by omega) (by omega) ]; exact h5 k hk, by rw [k16 _ (by omega) (by omega) (by omega) (by omega) , hq _ (by omega) (by omega) (by omega) (by omega) (by omega) (by omega) ]⟩, fun r h1 h2 h3 h4 h5 h6 h7 h8 => (hrow r h1 h2 h3 h4 h5 h6 h7 h8).trans (k17 r h2 h3)⟩) d_Mo_refines_172
      · refine q_aload_n d_Mo_refines_161 rfl ?_
        refine q_iload d_Mo_refines_162 rfl ?_
        refine q_iload d_Mo_refines_164 rfl ?_
        refine q_bipush d_Mo_refines_166 (by decide) ?_
        refine q_iconst d_Mo_refines_168 rfl ?_
        refine q_callV (As := [vi ((140 + 8 * p + i : Nat) : Int), vi ((140 + 8 * p + i : Nat) : Int), vi 110, vi (-1)]) (c_Mo_sum l K (r := 140 + 8 * p + i) (i := 140 + 8 * p + i) (j := 110) (u := cu + 1) (y := 1) ⟨hM0, hM1, hM2, hM3, hM4, hM5, hM6, hM7, hM8, hM9⟩ (by omega) (by omega) (by decide) hC7 (((((((a1.mv (k3 110 (by decide) (by decide))).mv (k6 110 (by decide) (by decide) (by decide) (by decide))).mv (k9 110 (by omega))).mv ⟨fun y hy => mr_o _ _ (by omega), by rw [q_up_a _ _ (by omega)], by rw [q_up_a _ _ (by omega)]⟩).mv (k12 110 (by omega))).mv (k15 110 (by decide) (by decide))).mv (k17 110 (by decide) (by decide))) (Or.inr rfl) hc3 (by have := ip_le (B := 65536) (by decide) (show 1 ≤ cu + 1 by omega); omega) (by omega)) w_cd_Mo_sum w_ini_Mo w_ml_Mo_83 w_im_Mo_sum w_se_Mo_sum (by assumption) rfl hd_Mo_sum rfl (Nat.le_of_ble_eq_true rfl) d_Mo_refines_169 (by decide) (by decide) (fun v σ8 hp => ?_)
        obtain ⟨rfl, k18, k19, k20⟩ := hp
        exact q_vret rfl (⟨rfl, by rw [show rfn P n C D x = (C * 2 ^ 1 + 1 * 1 + -1 * 1, 0) by unfold rfn; rw [if_pos cx, if_neg cm, if_neg ce]]; exact k18, by rw [k19 _ (by omega) (by omega) (by omega) (by omega) , k16 _ (by omega) (by omega) (by omega) (by omega) ]; exact h5s, by rw [show rfn P n C D x = (C * 2 ^ 1 + 1 * 1 + -1 * 1, 0) by unfold rfn; rw [if_pos cx, if_neg cm, if_neg ce], k19 _ (by omega) (by omega) (by omega) (by omega) , k16 _ (by omega) (by omega) (by omega) (by omega) , hq _ (by omega) (by omega) (by omega) (by omega) (by omega) (by omega) , hx, cx], fun q h1 h2 h3 h4 h5 h6 h7 => by rw [k19 q h1 h2 h3 h7, k16 q h1 h2 h3 h7]; exact hq q h1 h2 h3 h4 h5 h7, fun j hj => by rw [k19 _ (by omega) (by omega) (by omega) (by omega) , k16 _ (by omega) (by omega) (by omega) (by omega) ]; exact hdg j hj, fun k hk => ⟨by rw [k19 _ (by omega) (by omega) (by omega) (by omega) , k16 _ (by omega) (by omega) (by omega) (by omega) ]; exact h5 k hk, by rw [k19 _ (by omega) (by omega) (by omega) (by omega) , k16 _ (by omega) (by omega) (by omega) (by omega) , hq _ (by omega) (by omega) (by omega) (by omega) (by omega) (by omega) ]⟩, fun r h1 h2 h3 h4 h5 h6 h7 h8 => ((hrow r h1 h2 h3 h4 h5 h6 h7 h8).trans (k17 r h2 h3)).trans (k20 r h8)⟩) d_Mo_refines_172
    · refine q_aload_n d_Mo_refines_144 rfl ?_
      refine q_gr (by assumption) pc_Mo 6 (by decide) w_fl_Mo_26 rfl (by rfl) d_Mo_refines_145 ?_
      refine q_iload_n d_Mo_refines_148 rfl ?_
      refine q_iconst d_Mo_refines_149 rfl ?_
      refine q_zas (8 * p + i) (by assumption) (by omega) (by omega) (by omega) (Or.inr rfl) d_Mo_refines_150 ?_
      refine q_goto (tgt := 172) d_Mo_refines_151 (by decide) ?_
      exact q_vret rfl (⟨rfl, by rw [show rfn P n C D x = (C * 2 ^ 1 + 1 * 1, 1) by unfold rfn; rw [if_pos cx, if_pos cm]]; exact hC7.mv ⟨fun y hy => mr_o _ _ (by omega), by rw [q_up_a _ _ (by omega)], by rw [q_up_a _ _ (by omega)]⟩, by rw [q_up_a _ _ (by omega), k16 _ (by omega) (by omega) (by omega) (by omega) ]; exact h5s, by rw [show rfn P n C D x = (C * 2 ^ 1 + 1 * 1, 1) by unfold rfn; rw [if_pos cx, if_pos cm], q_up_self], fun q h1 h2 h3 h4 h5 h6 h7 => by rw [q_up_a _ _ h6, k16 q h1 h2 h3 h7]; exact hq q h1 h2 h3 h4 h5 h7, fun j hj => by rw [q_up_a _ _ (by omega), k16 _ (by omega) (by omega) (by omega) (by omega) ]; exact hdg j hj, fun k hk => ⟨by rw [q_up_a _ _ (by omega), k16 _ (by omega) (by omega) (by omega) (by omega) ]; exact h5 k hk, by rw [q_up_k _ _ hk, k16 _ (by omega) (by omega) (by omega) (by omega) , hq _ (by omega) (by omega) (by omega) (by omega) (by omega) (by omega) ]⟩, fun r h1 h2 h3 h4 h5 h6 h7 h8 => ((hrow r h1 h2 h3 h4 h5 h6 h7 h8).trans (k17 r h2 h3)).trans ⟨fun y hy => mr_o _ _ (by omega), by rw [q_up_a _ _ (by omega)], by rw [q_up_a _ _ (by omega)]⟩⟩) d_Mo_refines_172
  · refine q_aload_n d_Mo_refines_31 rfl ?_
    refine q_iload d_Mo_refines_32 rfl ?_
    refine q_iload d_Mo_refines_34 rfl ?_
    refine q_iconst d_Mo_refines_36 rfl ?_
    refine q_callV (As := [vi ((140 + 8 * p + i : Nat) : Int), vi ((140 + 8 * p + i : Nat) : Int), vi 1]) (c_Mo_lift l K (r := 140 + 8 * p + i) (i := 140 + 8 * p + i) (p := 1) (u := cu - 1) ⟨hM0, hM1, hM2, hM3, hM4, hM5, hM6, hM7, hM8, hM9⟩ (by omega) (by omega) (hC.mv (a3 _ (by omega))) b1 (by omega)) w_cd_Mo_lift w_ini_Mo w_ml_Mo_108 w_im_Mo_lift w_se_Mo_lift (by assumption) rfl hd_Mo_lift rfl (Nat.le_of_ble_eq_true rfl) d_Mo_refines_37 (by decide) (by decide) (fun v σ2 hp => ?_)
    obtain ⟨rfl, k1, k2, k3⟩ := hp
    refine q_aload_n d_Mo_refines_40 rfl ?_
    refine q_gr (by assumption) pc_Mo 5 (by decide) w_fl_Mo_23 rfl (by rfl) d_Mo_refines_41 ?_
    refine q_iload_n d_Mo_refines_44 rfl ?_
    refine q_dup2 d_Mo_refines_45 rfl rfl ?_
    refine q_ial (8 * p + i) (by assumption) (by omega) (by omega) (by omega) d_Mo_refines_46 ?_
    refine q_topi (show _ = (D : Int) by rw [k2 _ (by omega) (by omega) (by omega) (by omega) , a2 _ (by omega) (by omega) (by omega) (by omega) ]; exact hD) ?_
    refine q_iconst d_Mo_refines_47 rfl ?_
    refine q_iadd d_Mo_refines_48 ?_
    refine q_ias (8 * p + i) (by assumption) (by omega) (by omega) (by omega) d_Mo_refines_49 ?_
    exact q_vret rfl (⟨rfl, by rw [show rfn P n C D x = (C * 2 ^ 1, x) by unfold rfn; rw [if_neg cx]]; exact k1.mv ⟨fun y hy => mr_o _ _ (by omega), by rw [q_up_a _ _ (by omega)], by rw [q_up_a _ _ (by omega)]⟩, by rw [q_up_self], by rw [show rfn P n C D x = (C * 2 ^ 1, x) by unfold rfn; rw [if_neg cx], q_up_a _ _ (by omega), k2 _ (by omega) (by omega) (by omega) (by omega) , a2 _ (by omega) (by omega) (by omega) (by omega) ]; exact hx, fun q h1 h2 h3 h4 h5 h6 h7 => by rw [q_up_a _ _ h5, k2 q h1 h2 h3 h7, a2 q h1 h2 h3 h7], fun j hj => by rw [q_up_a _ _ (by omega), k2 _ (by omega) (by omega) (by omega) (by omega) , a2 _ (by omega) (by omega) (by omega) (by omega) ], fun k hk => ⟨by rw [q_up_k _ _ hk, k2 _ (by omega) (by omega) (by omega) (by omega) , a2 _ (by omega) (by omega) (by omega) (by omega) ], by rw [q_up_a _ _ (by omega), k2 _ (by omega) (by omega) (by omega) (by omega) , a2 _ (by omega) (by omega) (by omega) (by omega) ]⟩, fun r h1 h2 h3 h4 h5 h6 h7 h8 => ((a3 r h5).trans (k3 r h8)).trans ⟨fun y hy => mr_o _ _ (by omega), by rw [q_up_a _ _ (by omega)], by rw [q_up_a _ _ (by omega)]⟩⟩) d_Mo_refines_50
/-- t times -/
def rfs (P : Nat → Int) (n : Nat) (C : Int) (D : Nat) (x : Int) : Nat → Int × Int
  | 0 => (C, x)
  | t + 1 => rfn P n (rfs P n C D x t).1 (D + t) (rfs P n C D x t).2
theorem rfn_x {P : Nat → Int} {n : Nat} {C : Int} {D : Nat} {x : Int} (h : x = 0 ∨ x = 1) : (rfn P n C D x).2 = 0 ∨ (rfn P n C D x).2 = 1 := by
  unfold rfn
  split
  · split
    · exact Or.inr rfl
    · split <;> exact Or.inl rfl
  · exact h
theorem rfs_x {P : Nat → Int} {n : Nat} {C : Int} {D : Nat} {x : Int} (h : x = 0 ∨ x = 1) : ∀ t, (rfs P n C D x t).2 = 0 ∨ (rfs P n C D x t).2 = 1
  | 0 => h
  | t + 1 => rfn_x (rfs_x h t)
set_option maxHeartbeats 4000000 in
set_option maxRecDepth 100000 in
theorem c_Mo_refinesTo (l : Launch) (K : pw_K) {L : q_L} {σ : q_S} {m p i n D f cu u v c : Nat} {C x : Int} {P : Nat → Int} (hL : mL L m) (hp : p < 2) (hi : i < 8) (hn : n ≤ 8) (hn1 : 1 ≤ n) (hdeg : σ (m + 4) (2 + p) = n) (hP : ∀ k, k ≤ n → rV σ m (9 * (2 + p) + k) (P k)) (hPb : ∀ k, k ≤ n → ((P k).natAbs : Int) < 65536 ^ c) (hC : rV σ m (140 + 8 * p + i) C) (hD : σ (m + 5) (8 * p + i) = D) (hx : σ (m + 6) (8 * p + i) = x) (hx01 : x = 0 ∨ x = 1) (hf : f < 50000) (hb : ∀ t, t < 44 + f - D → bds P n cu u v (rfs P n C D x t).1 (D + t)) (hcu1 : (D + (44 + f - D)) / 16 + 2 ≤ cu) (hcu : cu + 6 ≤ 1024) (huv : u + v ≤ 1023) (hcw : c + (D + (44 + f - D)) * n / 16 + 2 ≤ 1023) (hD9 : D + (44 + f - D) < 90000) : q_C l K L y_Mo_refinesTo b_Mo_refinesTo 4 none 6 [.ref m, vi p, vi i, vi f] σ (fun r σ' => r = none ∧ rV σ' m (140 + 8 * p + i) (rfs P n C D x (44 + f - D)).1 ∧ σ' (m + 5) (8 * p + i) = ((D + (44 + f - D) : Nat) : Int) ∧ σ' (m + 6) (8 * p + i) = (rfs P n C D x (44 + f - D)).2 ∧ (∀ q, q ≠ m + 1 → q ≠ m + 2 → q ≠ m + 3 → q ≠ m + 4 → q ≠ m + 5 → q ≠ m + 6 → q ≠ m + 9 → σ' q = σ q) ∧ (∀ j, j ≠ 7 → σ' (m + 4) j = σ (m + 4) j) ∧ (∀ k, k ≠ 8 * p + i → σ' (m + 5) k = σ (m + 5) k ∧ σ' (m + 6) k = σ (m + 6) k) ∧ (∀ r, r ≠ 96 → r ≠ 103 → r ≠ 104 → r ≠ 105 → r ≠ 110 → r ≠ 111 → (r < 63 ∨ 71 ≤ r) → r ≠ 140 + 8 * p + i → rE σ σ' m r)) := by
  obtain ⟨hM0, hM1, hM2, hM3, hM4, hM5, hM6, hM7, hM8, hM9⟩ := hL
  refine q_start [some (.ref m), some (vi p), some (vi i), some (vi f)] (by decide) (Nat.le_of_ble_eq_true rfl) (fun q h => h) ?_
  have loop : ∀ (r t : Nat), t + r = 44 + f - D → ∀ σ1 : q_S, rV σ1 m (140 + 8 * p + i) (rfs P n C D x t).1 → σ1 (m + 5) (8 * p + i) = ((D + t : Nat) : Int) → σ1 (m + 6) (8 * p + i) = (rfs P n C D x t).2 → (∀ q, q ≠ m + 1 → q ≠ m + 2 → q ≠ m + 3 → q ≠ m + 4 → q ≠ m + 5 → q ≠ m + 6 → q ≠ m + 9 → σ1 q = σ q) → (∀ j, j ≠ 7 → σ1 (m + 4) j = σ (m + 4) j) → (∀ k, k ≠ 8 * p + i → σ1 (m + 5) k = σ (m + 5) k ∧ σ1 (m + 6) k = σ (m + 6) k) → (∀ r, r ≠ 96 → r ≠ 103 → r ≠ 104 → r ≠ 105 → r ≠ 110 → r ≠ 111 → (r < 63 ∨ 71 ≤ r) → r ≠ 140 + 8 * p + i → rE σ σ1 m r) → q_T l K L R_Mo b_Mo_refinesTo 4 none 6 (fun r σ' => r = none ∧ rV σ' m (140 + 8 * p + i) (rfs P n C D x (44 + f - D)).1 ∧ σ' (m + 5) (8 * p + i) = ((D + (44 + f - D) : Nat) : Int) ∧ σ' (m + 6) (8 * p + i) = (rfs P n C D x (44 + f - D)).2 ∧ (∀ q, q ≠ m + 1 → q ≠ m + 2 → q ≠ m + 3 → q ≠ m + 4 → q ≠ m + 5 → q ≠ m + 6 → q ≠ m + 9 → σ' q = σ q) ∧ (∀ j, j ≠ 7 → σ' (m + 4) j = σ (m + 4) j) ∧ (∀ k, k ≠ 8 * p + i → σ' (m + 5) k = σ (m + 5) k ∧ σ' (m + 6) k = σ (m + 6) k) ∧ (∀ r, r ≠ 96 → r ≠ 103 → r ≠ 104 → r ≠ 105 → r ≠ 110 → r ≠ 111 → (r < 63 ∨ 71 ≤ r) → r ≠ 140 + 8 * p + i → rE σ σ' m r)) 0 [some (.ref m), some (vi p), some (vi i), some (vi f)] [] σ1 := by
    intro r
    induction r with
    | zero =>
      intro t ht σ1 f1 f2 f3 f4 f5 f6 f7
      refine q_aload_n d_Mo_refinesTo_0 rfl ?_
      refine q_gr (by assumption) pc_Mo 5 (by decide) w_fl_Mo_23 rfl (by rfl) d_Mo_refinesTo_1 ?_
      refine q_bipush d_Mo_refinesTo_4 (by decide) ?_
      refine q_iload_n d_Mo_refinesTo_6 rfl ?_
      refine q_imul d_Mo_refinesTo_7 ?_
      refine q_iload_n d_Mo_refinesTo_8 rfl ?_
      refine q_iadd d_Mo_refinesTo_9 ?_
      refine q_topi (show _ = ((8 * p + i : Nat) : Int) by omega) ?_
      refine q_ial (8 * p + i) (by assumption) (by omega) (by omega) (by omega) d_Mo_refinesTo_10 ?_
      refine q_topi (show _ = ((D + t : Nat) : Int) from f2) ?_
      refine q_bipush d_Mo_refinesTo_11 (by decide) ?_
      refine q_iload_n d_Mo_refinesTo_13 rfl ?_
      refine q_iadd d_Mo_refinesTo_14 ?_
      refine q_icmp_ge (tgt := 27) (by omega) (by omega) d_Mo_refinesTo_15 (by decide) (fun c15 => ?_) (fun c15 => absurd c15 (by omega))
      exact q_vret rfl (⟨rfl, by rw [show 44 + f - D = t by omega]; exact f1, by rw [show 44 + f - D = t by omega]; exact f2, by rw [show 44 + f - D = t by omega]; exact f3, f4, f5, f6, f7⟩) d_Mo_refinesTo_27
    | succ r ih =>
      intro t ht σ1 f1 f2 f3 f4 f5 f6 f7
      refine q_aload_n d_Mo_refinesTo_0 rfl ?_
      refine q_gr (by assumption) pc_Mo 5 (by decide) w_fl_Mo_23 rfl (by rfl) d_Mo_refinesTo_1 ?_
      refine q_bipush d_Mo_refinesTo_4 (by decide) ?_
      refine q_iload_n d_Mo_refinesTo_6 rfl ?_
      refine q_imul d_Mo_refinesTo_7 ?_
      refine q_iload_n d_Mo_refinesTo_8 rfl ?_
      refine q_iadd d_Mo_refinesTo_9 ?_
      refine q_topi (show _ = ((8 * p + i : Nat) : Int) by omega) ?_
      refine q_ial (8 * p + i) (by assumption) (by omega) (by omega) (by omega) d_Mo_refinesTo_10 ?_
      refine q_topi (show _ = ((D + t : Nat) : Int) from f2) ?_
      refine q_bipush d_Mo_refinesTo_11 (by decide) ?_
      refine q_iload_n d_Mo_refinesTo_13 rfl ?_
      refine q_iadd d_Mo_refinesTo_14 ?_
      refine q_icmp_ge (tgt := 27) (by omega) (by omega) d_Mo_refinesTo_15 (by decide) (fun c15 => absurd c15 (by omega)) (fun c15 => ?_)
      refine q_aload_n d_Mo_refinesTo_18 rfl ?_
      refine q_iload_n d_Mo_refinesTo_19 rfl ?_
      refine q_iload_n d_Mo_refinesTo_20 rfl ?_
      refine q_callV (As := [vi p, vi i]) (c_Mo_refines l K (n := n) (D := D + t) (cu := cu) (u := u) (v := v) (c := c) (P := P) ⟨hM0, hM1, hM2, hM3, hM4, hM5, hM6, hM7, hM8, hM9⟩ hp hi hn hn1 (by rw [f5 _ (by omega)]; exact hdeg) (fun k hk => (hP k hk).mv (f7 _ (by omega) (by omega) (by omega) (by omega) (by omega) (by omega) (by omega) (by omega) )) hPb f1 f2 f3 (rfs_x hx01 t) (hb t (by omega)) (by omega) hcu huv (by have := Nat.div_le_div_right (c := 16) (Nat.mul_le_mul_right n (show D + t + 1 ≤ D + (44 + f - D) by omega)); omega) (by omega)) w_cd_Mo_refines w_ini_Mo w_ml_Mo_134 w_im_Mo_refines w_se_Mo_refines (by assumption) rfl hd_Mo_refines rfl (Nat.le_of_ble_eq_true rfl) d_Mo_refinesTo_21 (by decide) (by decide) (fun v σ2 hp => ?_)
      obtain ⟨rfl, k1, k2, k3, k4, k5, k6, k7⟩ := hp
      refine q_goto (tgt := 0) d_Mo_refinesTo_24 (by decide) ?_
      exact ih (t + 1) (by omega) σ2 k1 (by rw [k2]; omega) k3 (fun q h1 h2 h3 h4 h5 h6 h7 => (k4 q h1 h2 h3 h4 h5 h6 h7).trans (f4 q h1 h2 h3 h4 h5 h6 h7)) (fun j hj => (k5 j hj).trans (f5 j hj)) (fun k hk => ⟨(k6 k hk).1.trans (f6 k hk).1, (k6 k hk).2.trans (f6 k hk).2⟩) (fun r h1 h2 h3 h4 h5 h6 h7 h8 => (f7 r h1 h2 h3 h4 h5 h6 h7 h8).trans (k7 r h1 h2 h3 h4 h5 h6 h7 h8))
  exact loop (44 + f - D) 0 (by omega) σ hC hD hx (fun q _ _ _ _ _ _ _ => rfl) (fun j _ => rfl) (fun k _ => ⟨rfl, rfl⟩) (fun r _ _ _ _ _ _ _ _ => rE.rfl)
