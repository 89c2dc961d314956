/-! THE REFERENCE: isZeroAt -/
/-- does the polynomial change its sign over the cell (or is it 0 at its low end, if that is the root) -/
def izv (P : Nat → Int) (n : Nat) (Lo : Int) (f : Nat) (x : Int) : Int := if x = 0 then (if (hv P n (Lo + 1 * 1) f (n + 1)).sign = 0 then (if -(hv (fun k => P (k + 1) * ((k : Int) + 1)) (n - 1) (Lo + 1 * 1) f n).sign = sdv P n Lo f then 0 else 1) else (if (hv P n (Lo + 1 * 1) f (n + 1)).sign = sdv P n Lo f then 0 else 1)) else (if (hv P n Lo f (n + 1)).sign = 0 then 1 else 0)
set_option maxHeartbeats 4000000 in
set_option maxRecDepth 100000 in
theorem c_Mo_isZeroAt (l : Launch) (K : pw_K) {L : q_L} {σ : q_S} {m z p i n D cu u v c : Nat} {C x : Int} {P : Nat → Int} (hL : mL L m) (hz : z < 7 ∨ (7 < z ∧ z < 10)) (hp : p < 2) (hi : i < 8) (hn : n ≤ 8) (hn1 : 1 ≤ n) (hdeg : σ (m + 4) z = n) (hP : ∀ k, k ≤ n → rV σ m (9 * z + k) (P k)) (hPb : ∀ k, k ≤ n → ((P k).natAbs : Int) < 65536 ^ c) (hC : rV σ m (140 + 8 * p + i) C) (hCb : (C.natAbs : Int) < 65536 ^ cu) (hD : σ (m + 5) (8 * p + i) = D) (hx : σ (m + 6) (8 * p + i) = x) (hx01 : x = 0 ∨ x = 1) (hju : D / 16 + 1 ≤ cu) (hcu : cu + 5 ≤ 1024) (b1 : ((lowv C D).natAbs : Int) < 65536 ^ v) (b2 : ∀ i, i ≤ n → ((hv P n (lowv C D) (D - 44) i).natAbs : Int) < 65536 ^ u) (b3 : ∀ i, i ≤ n - 1 → ((hv (fun k => P (k + 1) * ((k : Int) + 1)) (n - 1) (lowv C D) (D - 44) i).natAbs : Int) < 65536 ^ u) (b4 : ((lowv C D + 1 * 1).natAbs : Int) < 65536 ^ v) (b5 : ∀ i, i ≤ n → ((hv P n (lowv C D + 1 * 1) (D - 44) i).natAbs : Int) < 65536 ^ u) (b6 : ∀ i, i ≤ n - 1 → ((hv (fun k => P (k + 1) * ((k : Int) + 1)) (n - 1) (lowv C D + 1 * 1) (D - 44) i).natAbs : Int) < 65536 ^ u) (huv : u + v ≤ 1023) (hv1 : v + 2 ≤ 1024) (hcw : c + (D - 44) * n / 16 + 2 ≤ 1023) (hD9 : D < 90000) : q_C l K L y_Mo_isZeroAt b_Mo_isZeroAt 7 (some .boolean) 5 [.ref m, vi z, vi p, vi i] σ (fun r σ' => r = some (vi (izv P n (lowv C D) (D - 44) x)) ∧ (∀ q, q ≠ m + 1 → q ≠ m + 2 → q ≠ m + 3 → q ≠ m + 4 → q ≠ m + 9 → σ' q = σ q) ∧ (∀ j, j ≠ 7 → σ' (m + 4) j = σ (m + 4) j) ∧ (∀ r, r ≠ 96 → r ≠ 103 → r ≠ 104 → r ≠ 105 → r ≠ 113 → r ≠ 114 → (r < 63 ∨ 71 ≤ r) → rE σ σ' m r)) := by
  obtain ⟨hM0, hM1, hM2, hM3, hM4, hM5, hM6, hM7, hM8, hM9⟩ := hL
  refine q_start [some (.ref m), some (vi z), some (vi p), some (vi i), none, none, none] (by decide) (Nat.le_of_ble_eq_true rfl) (fun q h => h) ?_
  refine q_aload_n d_Mo_isZeroAt_0 rfl ?_
  refine q_gr (by assumption) pc_Mo 4 (by decide) w_fl_Mo_20 rfl (by rfl) d_Mo_isZeroAt_1 ?_
  refine q_iload_n d_Mo_isZeroAt_4 rfl ?_
  refine q_ial (z) (by assumption) (by omega) (by omega) (by omega) d_Mo_isZeroAt_5 ?_
  refine q_topi hdeg ?_
  refine q_iconst d_Mo_isZeroAt_6 rfl ?_
  refine q_icmp_ge (tgt := 12) (by omega) (by omega) d_Mo_isZeroAt_7 (by decide) (fun c7 => ?_) (fun c7 => absurd c7 (by omega))
  refine q_aload_n d_Mo_isZeroAt_12 rfl ?_
  refine q_bipush d_Mo_isZeroAt_13 (by decide) ?_
  refine q_iload_n d_Mo_isZeroAt_15 rfl ?_
  refine q_iload_n d_Mo_isZeroAt_16 rfl ?_
  refine q_callV (As := [vi 113, vi p, vi i]) (c_Mo_lowOf l K (o := 113) (p := p) (i := i) (j := D) (u := cu) ⟨hM0, hM1, hM2, hM3, hM4, hM5, hM6, hM7, hM8, hM9⟩ (by decide) (by decide) hp hi hD hC hCb hju (by omega)) w_cd_Mo_lowOf w_ini_Mo w_ml_Mo_162 w_im_Mo_lowOf w_se_Mo_lowOf (by assumption) rfl hd_Mo_lowOf rfl (Nat.le_of_ble_eq_true rfl) d_Mo_isZeroAt_17 (by decide) (by decide) (fun v σ1 hp => ?_)
  obtain ⟨rfl, k1, k2, k3⟩ := hp
  have hP1 : ∀ k, k ≤ n → rV σ1 m (9 * z + k) (P k) := fun k hk => (hP k hk).mv (k3 _ (by omega) (by omega))
  have hd1 : σ1 (m + 4) z = n := by rw [k2 _ (by omega) (by omega) (by omega) (by omega)]; exact hdeg
  refine q_ist_4 d_Mo_isZeroAt_20 (by decide) rfl ?_
  refine q_aload_n d_Mo_isZeroAt_22 rfl ?_
  refine q_gr (by assumption) pc_Mo 6 (by decide) w_fl_Mo_26 rfl (by rfl) d_Mo_isZeroAt_23 ?_
  refine q_bipush d_Mo_isZeroAt_26 (by decide) ?_
  refine q_iload_n d_Mo_isZeroAt_28 rfl ?_
  refine q_imul d_Mo_isZeroAt_29 ?_
  refine q_iload_n d_Mo_isZeroAt_30 rfl ?_
  refine q_iadd d_Mo_isZeroAt_31 ?_
  refine q_topi (show _ = ((8 * p + i : Nat) : Int) by omega) ?_
  refine q_zal (8 * p + i) (by assumption) (by omega) (by omega) (by omega) d_Mo_isZeroAt_32 ?_
  refine q_topi (show _ = x by rw [k2 _ (by omega) (by omega) (by omega) (by omega)]; exact hx) ?_
  refine q_if_eq (tgt := 48) (by omega) d_Mo_isZeroAt_33 (by decide) (fun cx => ?_) (fun cx => ?_)
  · refine q_aload_n d_Mo_isZeroAt_48 rfl ?_
    refine q_iload_n d_Mo_isZeroAt_49 rfl ?_
    refine q_bipush d_Mo_isZeroAt_50 (by decide) ?_
    refine q_iload d_Mo_isZeroAt_52 rfl ?_
    refine q_callV (As := [vi z, vi 113, vi ((D - 44 : Nat) : Int)]) (c_Mo_sideOf l K (p := z) (w := 113) (n := n) (ex := D - 44) (u := u) (v := v) (c := c) (P := P) ⟨hM0, hM1, hM2, hM3, hM4, hM5, hM6, hM7, hM8, hM9⟩ (by omega) (by decide) (by omega) hn hn1 (by omega) hd1 hP1 k1 b1 hPb b2 b3 huv (by omega)) w_cd_Mo_sideOf w_ini_Mo w_ml_Mo_137 w_im_Mo_sideOf w_se_Mo_sideOf (by assumption) rfl hd_Mo_sideOf rfl (Nat.le_of_ble_eq_true rfl) d_Mo_isZeroAt_54 (by decide) (by decide) (fun v σ2 hp => ?_)
    obtain ⟨rfl, k4, k5, k6⟩ := hp
    refine q_topi (show _ = sdv P n (lowv C D) (D - 44) from rfl) ?_
    have r2 : -1 ≤ sdv P n (lowv C D) (D - 44) ∧ sdv P n (lowv C D) (D - 44) ≤ 1 := by unfold sdv; split <;> exact sgn_b _
    refine q_ist_5 d_Mo_isZeroAt_57 (by decide) rfl ?_
    refine q_aload_n d_Mo_isZeroAt_59 rfl ?_
    refine q_gr (by assumption) pc_Mo 6 (by decide) w_fl_Mo_26 rfl (by rfl) d_Mo_isZeroAt_60 ?_
    refine q_bipush d_Mo_isZeroAt_63 (by decide) ?_
    refine q_iload_n d_Mo_isZeroAt_65 rfl ?_
    refine q_imul d_Mo_isZeroAt_66 ?_
    refine q_iload_n d_Mo_isZeroAt_67 rfl ?_
    refine q_iadd d_Mo_isZeroAt_68 ?_
    refine q_topi (show _ = ((8 * p + i : Nat) : Int) by omega) ?_
    refine q_zal (8 * p + i) (by assumption) (by omega) (by omega) (by omega) d_Mo_isZeroAt_69 ?_
    refine q_topi (show _ = x by rw [k4 _ (by omega) (by omega) (by omega) (by omega) (by omega), k2 _ (by omega) (by omega) (by omega) (by omega)]; exact hx) ?_
    refine q_if_eq (tgt := 84) (by omega) d_Mo_isZeroAt_70 (by decide) (fun cx2 => ?_) (fun cx2 => absurd cx2 (by omega))
    refine q_aload_n d_Mo_isZeroAt_84 rfl ?_
    refine q_bipush d_Mo_isZeroAt_85 (by decide) ?_
    refine q_lconst (z := 1) d_Mo_isZeroAt_87 (by decide) ?_
    refine q_callV (As := [vi 114, vl 1]) (q_Mo_set l K σ2 (r := 114) ⟨hM0, hM1, hM2, hM3, hM4, hM5, hM6, hM7, hM8, hM9⟩ (by decide) (by omega)) w_cd_Mo_set w_ini_Mo w_ml_Mo_72 w_im_Mo_set w_se_Mo_set (by assumption) rfl hd_Mo_set rfl (Nat.le_of_ble_eq_true rfl) d_Mo_isZeroAt_88 (by decide) (by decide) (fun v σ3 hp => ?_)
    obtain ⟨rfl, k7, k8, -, k9⟩ := hp
    refine q_aload_n d_Mo_isZeroAt_91 rfl ?_
    refine q_bipush d_Mo_isZeroAt_92 (by decide) ?_
    refine q_bipush d_Mo_isZeroAt_94 (by decide) ?_
    refine q_bipush d_Mo_isZeroAt_96 (by decide) ?_
    refine q_iconst d_Mo_isZeroAt_98 rfl ?_
    refine q_callV (As := [vi 113, vi 113, vi 114, vi 1]) (c_Mo_sum l K (r := 113) (i := 113) (j := 114) (u := v + 1) (x := lowv C D) (y := 1) ⟨hM0, hM1, hM2, hM3, hM4, hM5, hM6, hM7, hM8, hM9⟩ (by decide) (by decide) (by decide) ((k1.mv (k6 113 (by decide) (by decide) (by decide) (by decide))).mv (k9 113 (by decide))) k7 (Or.inl rfl) (l16 b1 (by omega)) (by have := ip_le (B := 65536) (by decide) (show 1 ≤ v + 1 by omega); omega) (by omega)) w_cd_Mo_sum w_ini_Mo w_ml_Mo_83 w_im_Mo_sum w_se_Mo_sum (by assumption) rfl hd_Mo_sum rfl (Nat.le_of_ble_eq_true rfl) d_Mo_isZeroAt_99 (by decide) (by decide) (fun v σ4 hp => ?_)
    obtain ⟨rfl, k10, k11, k12⟩ := hp
    have hrow : ∀ r, r ≠ 96 → r ≠ 103 → r ≠ 104 → r ≠ 105 → r ≠ 113 → r ≠ 114 → (r < 63 ∨ 71 ≤ r) → rE σ σ4 m r := fun r h1 h2 h3 h4 h5 h6 h7 => (((k3 r h5 h4).trans (k6 r h1 h2 h3 h7)).trans (k9 r h6)).trans (k12 r h5)
    have hq : ∀ q, q ≠ m + 1 → q ≠ m + 2 → q ≠ m + 3 → q ≠ m + 4 → q ≠ m + 9 → σ4 q = σ q := fun q h1 h2 h3 h4 h5 => by rw [k11 q h1 h2 h3 h5, k8 q h1 h2 h3 h5, k4 q h1 h2 h3 h4 h5, k2 q h1 h2 h3 h5]
    have hdg : ∀ j, j ≠ 7 → σ4 (m + 4) j = σ (m + 4) j := fun j hj => by rw [k11 _ (by omega) (by omega) (by omega) (by omega), k8 _ (by omega) (by omega) (by omega) (by omega), k5 j hj, k2 _ (by omega) (by omega) (by omega) (by omega)]
    refine q_aload_n d_Mo_isZeroAt_102 rfl ?_
    refine q_iload_n d_Mo_isZeroAt_103 rfl ?_
    refine q_bipush d_Mo_isZeroAt_104 (by decide) ?_
    refine q_iload d_Mo_isZeroAt_106 rfl ?_
    refine q_callV (As := [vi z, vi 113, vi ((D - 44 : Nat) : Int)]) (c_Mo_signOf l K σ4 (p := z) (w := 113) (n := n) (ex := D - 44) (u := u) (v := v) (c := c) (P := P) ⟨hM0, hM1, hM2, hM3, hM4, hM5, hM6, hM7, hM8, hM9⟩ (by omega) (by decide) (by decide) (by decide) hn (by omega) (by rw [hdg _ (by omega)]; exact hdeg) (fun k hk => (hP k hk).mv (hrow _ (by omega) (by omega) (by omega) (by omega) (by omega) (by omega) (by omega))) k10 b4 hPb b5 huv (by omega)) w_cd_Mo_signOf w_ini_Mo w_ml_Mo_131 w_im_Mo_signOf w_se_Mo_signOf (by assumption) rfl hd_Mo_signOf rfl (Nat.le_of_ble_eq_true rfl) d_Mo_isZeroAt_108 (by decide) (by decide) (fun v σ5 hp => ?_)
    obtain ⟨rfl, k13, k14⟩ := hp
    have r3 := sgn_b (hv P n (lowv C D + 1 * 1) (D - 44) (n + 1))
    refine q_ist_6 d_Mo_isZeroAt_111 (by decide) rfl ?_
    refine q_iload d_Mo_isZeroAt_113 rfl ?_
    refine q_if_eq (tgt := 131) (by omega) d_Mo_isZeroAt_115 (by decide) (fun cs => ?_) (fun cs => ?_)
    · refine q_aload_n d_Mo_isZeroAt_131 rfl ?_
      refine q_bipush d_Mo_isZeroAt_132 (by decide) ?_
      refine q_iload_n d_Mo_isZeroAt_134 rfl ?_
      refine q_callV (As := [vi 7, vi z]) (c_Mo_derive l K (p := 7) (i := z) (n := n + 1) (u := c) (P := P) ⟨hM0, hM1, hM2, hM3, hM4, hM5, hM6, hM7, hM8, hM9⟩ (by decide) (by omega) (by omega) (by omega) (by rw [k13 _ (by omega) (by omega) (by omega) (by omega), hdg _ (by omega), hdeg]; omega) (fun k hk => ((hP k (by omega)).mv (hrow _ (by omega) (by omega) (by omega) (by omega) (by omega) (by omega) (by omega))).mv (k14 _ (by omega) (by omega))) (fun k hk => hPb k (by omega)) (by omega)) w_cd_Mo_derive w_ini_Mo w_ml_Mo_99 w_im_Mo_derive w_se_Mo_derive (by assumption) rfl hd_Mo_derive rfl (Nat.le_of_ble_eq_true rfl) d_Mo_isZeroAt_135 (by decide) (by decide) (fun v σ6 hp => ?_)
      obtain ⟨rfl, k15, k16, k17, k18, k19⟩ := hp
      rw [Nat.add_sub_cancel] at k15 k16
      refine q_aload_n d_Mo_isZeroAt_138 rfl ?_
      refine q_bipush d_Mo_isZeroAt_139 (by decide) ?_
      refine q_bipush d_Mo_isZeroAt_141 (by decide) ?_
      refine q_iload d_Mo_isZeroAt_143 rfl ?_
      refine q_callV (As := [vi 7, vi 113, vi ((D - 44 : Nat) : Int)]) (c_Mo_signOf l K σ6 (p := 7) (w := 113) (n := n - 1) (ex := D - 44) (u := u) (v := v) (c := c + 1) (P := fun k => P (k + 1) * ((k : Int) + 1)) ⟨hM0, hM1, hM2, hM3, hM4, hM5, hM6, hM7, hM8, hM9⟩ (by decide) (by decide) (by decide) (by decide) (by omega) (by omega) (by rw [k15]; omega) (fun k hk => k16 k (by omega)) ((k10.mv (k14 113 (by decide) (by decide))).mv (k17 113 (by decide) (by decide))) b4 (fun k hk => mul_lt_pow (hPb (k + 1) (by omega)) (by omega)) b6 huv (by have := Nat.div_le_div_right (c := 16) (Nat.mul_le_mul_left (D - 44) (show n - 1 ≤ n by omega)); omega)) w_cd_Mo_signOf w_ini_Mo w_ml_Mo_131 w_im_Mo_signOf w_se_Mo_signOf (by assumption) rfl hd_Mo_signOf rfl (Nat.le_of_ble_eq_true rfl) d_Mo_isZeroAt_145 (by decide) (by decide) (fun v σ7 hp => ?_)
      obtain ⟨rfl, k20, k21⟩ := hp
      rw [show n - 1 + 1 = n by omega]
      have r4 := sgn_b (hv (fun k => P (k + 1) * ((k : Int) + 1)) (n - 1) (lowv C D + 1 * 1) (D - 44) n)
      refine q_ineg d_Mo_isZeroAt_148 ?_
      refine q_iload d_Mo_isZeroAt_149 rfl ?_
      refine q_jn2 (V := if -(hv (fun k => P (k + 1) * ((k : Int) + 1)) (n - 1) (lowv C D + 1 * 1) (D - 44) n).sign = sdv P n (lowv C D) (D - 44) then (0 : Int) else 1) 159 (fun jn => ?_) ?_
      · refine q_icmp_eq (tgt := 158) (by omega) (by omega) d_Mo_isZeroAt_151 (by decide) (fun ce => ?_) (fun ce => ?_)
        · refine q_iconst d_Mo_isZeroAt_158 rfl ?_
          exact jn _ ((if_pos ce).symm)
        · refine q_iconst d_Mo_isZeroAt_154 rfl ?_
          refine q_goto (tgt := 159) d_Mo_isZeroAt_155 (by decide) ?_
          exact jn _ ((if_neg ce).symm)
      · exact q_zret rfl (by split <;> omega) (⟨by unfold izv; rw [if_pos cx, if_pos cs], fun q h1 h2 h3 h4 h5 => by rw [k20 q h1 h2 h3 h5, k19 q h1 h2 h3 h4 h5, k13 q h1 h2 h3 h5]; exact hq q h1 h2 h3 h4 h5, fun j hj => by rw [k20 _ (by omega) (by omega) (by omega) (by omega), k18 j hj, k13 _ (by omega) (by omega) (by omega) (by omega)]; exact hdg j hj, fun r h1 h2 h3 h4 h5 h6 h7 => (((hrow r h1 h2 h3 h4 h5 h6 h7).trans (k14 r h2 h3)).trans (k17 r h1 (by omega))).trans (k21 r h2 h3)⟩) d_Mo_isZeroAt_159
    · refine q_iload d_Mo_isZeroAt_118 rfl ?_
      refine q_iload d_Mo_isZeroAt_120 rfl ?_
      refine q_jn2 (V := if (hv P n (lowv C D + 1 * 1) (D - 44) (n + 1)).sign = sdv P n (lowv C D) (D - 44) then (0 : Int) else 1) 130 (fun jn => ?_) ?_
      · refine q_icmp_eq (tgt := 129) (by omega) (by omega) d_Mo_isZeroAt_122 (by decide) (fun ce => ?_) (fun ce => ?_)
        · refine q_iconst d_Mo_isZeroAt_129 rfl ?_
          exact jn _ ((if_pos ce).symm)
        · refine q_iconst d_Mo_isZeroAt_125 rfl ?_
          refine q_goto (tgt := 130) d_Mo_isZeroAt_126 (by decide) ?_
          exact jn _ ((if_neg ce).symm)
      · exact q_zret rfl (by split <;> omega) (⟨by unfold izv; rw [if_pos cx, if_neg cs], fun q h1 h2 h3 h4 h5 => by rw [k13 q h1 h2 h3 h5]; exact hq q h1 h2 h3 h4 h5, fun j hj => by rw [k13 _ (by omega) (by omega) (by omega) (by omega)]; exact hdg j hj, fun r h1 h2 h3 h4 h5 h6 h7 => (hrow r h1 h2 h3 h4 h5 h6 h7).trans (k14 r h2 h3)⟩) d_Mo_isZeroAt_130
  · refine q_aload_n d_Mo_isZeroAt_36 rfl ?_
    refine q_iload_n d_Mo_isZeroAt_37 rfl ?_
    refine q_bipush d_Mo_isZeroAt_38 (by decide) ?_
    refine q_iload d_Mo_isZeroAt_40 rfl ?_
    refine q_callV (As := [vi z, vi 113, vi ((D - 44 : Nat) : Int)]) (c_Mo_signOf l K σ1 (p := z) (w := 113) (n := n) (ex := D - 44) (u := u) (v := v) (c := c) (P := P) ⟨hM0, hM1, hM2, hM3, hM4, hM5, hM6, hM7, hM8, hM9⟩ (by omega) (by decide) (by decide) (by decide) hn (by omega) hd1 hP1 k1 b1 hPb b2 huv (by omega)) w_cd_Mo_signOf w_ini_Mo w_ml_Mo_131 w_im_Mo_signOf w_se_Mo_signOf (by assumption) rfl hd_Mo_signOf rfl (Nat.le_of_ble_eq_true rfl) d_Mo_isZeroAt_42 (by decide) (by decide) (fun v σ2 hp => ?_)
    obtain ⟨rfl, k4, k5⟩ := hp
    have r1 := sgn_b (hv P n (lowv C D) (D - 44) (n + 1))
    refine q_goto (tgt := 57) d_Mo_isZeroAt_45 (by decide) ?_
    refine q_ist_5 d_Mo_isZeroAt_57 (by decide) rfl ?_
    refine q_aload_n d_Mo_isZeroAt_59 rfl ?_
    refine q_gr (by assumption) pc_Mo 6 (by decide) w_fl_Mo_26 rfl (by rfl) d_Mo_isZeroAt_60 ?_
    refine q_bipush d_Mo_isZeroAt_63 (by decide) ?_
    refine q_iload_n d_Mo_isZeroAt_65 rfl ?_
    refine q_imul d_Mo_isZeroAt_66 ?_
    refine q_iload_n d_Mo_isZeroAt_67 rfl ?_
    refine q_iadd d_Mo_isZeroAt_68 ?_
    refine q_topi (show _ = ((8 * p + i : Nat) : Int) by omega) ?_
    refine q_zal (8 * p + i) (by assumption) (by omega) (by omega) (by omega) d_Mo_isZeroAt_69 ?_
    refine q_topi (show _ = x by rw [k4 _ (by omega) (by omega) (by omega) (by omega), k2 _ (by omega) (by omega) (by omega) (by omega)]; exact hx) ?_
    refine q_if_eq (tgt := 84) (by omega) d_Mo_isZeroAt_70 (by decide) (fun cx2 => absurd cx2 (by omega)) (fun cx2 => ?_)
    refine q_iload d_Mo_isZeroAt_73 rfl ?_
    refine q_jn1 (V := if (hv P n (lowv C D) (D - 44) (n + 1)).sign = 0 then (1 : Int) else 0) 83 (fun jn => ?_) ?_
    · refine q_if_ne (tgt := 82) (by omega) d_Mo_isZeroAt_75 (by decide) (fun cs => ?_) (fun cs => ?_)
      · refine q_iconst d_Mo_isZeroAt_82 rfl ?_
        exact jn _ ((if_neg cs).symm)
      · refine q_iconst d_Mo_isZeroAt_78 rfl ?_
        refine q_goto (tgt := 83) d_Mo_isZeroAt_79 (by decide) ?_
        exact jn _ ((if_pos cs).symm)
    · exact q_zret rfl (by split <;> omega) (⟨by unfold izv; rw [if_neg cx], fun q h1 h2 h3 h4 h5 => by rw [k4 q h1 h2 h3 h5]; exact k2 q h1 h2 h3 h5, fun j hj => by rw [k4 _ (by omega) (by omega) (by omega) (by omega), k2 _ (by omega) (by omega) (by omega) (by omega)], fun r h1 h2 h3 h4 h5 h6 h7 => (k3 r h5 h4).trans (k5 r h2 h3)⟩) d_Mo_isZeroAt_83
set_option maxHeartbeats 4000000 in
set_option maxRecDepth 100000 in
theorem c_Mo_isZeroAt0 (l : Launch) (K : pw_K) {L : q_L} {σ : q_S} {m z p i : Nat} {n : Int} (hL : mL L m) (hz : z < 10) (hdeg : σ (m + 4) z = n) (hn : -1 ≤ n ∧ n < 1) : q_C l K L y_Mo_isZeroAt b_Mo_isZeroAt 7 (some .boolean) 5 [.ref m, vi z, vi p, vi i] σ (fun r σ' => r = some (vi 0) ∧ σ' = σ) := by
  obtain ⟨hM0, hM1, hM2, hM3, hM4, hM5, hM6, hM7, hM8, hM9⟩ := hL
  refine q_start [some (.ref m), some (vi z), some (vi p), some (vi i), none, none, none] (by decide) (Nat.le_of_ble_eq_true rfl) (fun q h => h) ?_
  refine q_aload_n d_Mo_isZeroAt_0 rfl ?_
  refine q_gr (by assumption) pc_Mo 4 (by decide) w_fl_Mo_20 rfl (by rfl) d_Mo_isZeroAt_1 ?_
  refine q_iload_n d_Mo_isZeroAt_4 rfl ?_
  refine q_ial (z) (by assumption) (by omega) (by omega) (by omega) d_Mo_isZeroAt_5 ?_
  refine q_topi hdeg ?_
  refine q_iconst d_Mo_isZeroAt_6 rfl ?_
  refine q_icmp_ge (tgt := 12) (by omega) (by omega) d_Mo_isZeroAt_7 (by decide) (fun c7 => absurd c7 (by omega)) (fun c7 => ?_)
  refine q_iconst d_Mo_isZeroAt_10 rfl ?_
  exact q_zret rfl (by omega) (⟨rfl, rfl⟩) d_Mo_isZeroAt_11
