/-! THE REFERENCE: sideOfRoot -/
set_option maxHeartbeats 4000000 in
set_option maxRecDepth 100000 in
theorem c_Mo_sideOfRoot (l : Launch) (K : pw_K) {L : q_L} {σ : q_S} {m p i n M j : Nat} {P : Nat → Int} {F : Nat → Nat → Int} {d : Nat → Nat} {C x : Int} (hL : mL L m) (hp : p < 2) (hi : i < 8) (hg : gch P n M F d) (h1 : 1 ≤ d 0) (hq : mq σ m p F d) (hk : kat σ m p i F d M C j x) (hj1 : 44 ≤ j) (hj : j ≤ 1400) {u : Int} {ee : Nat} (hu : -9223372036854775808 ≤ u ∧ u < 9223372036854775808) (hee : ee ≤ 62) : q_C l K L y_Mo_sideOfRoot b_Mo_sideOfRoot 8 (some .int) 7 [.ref m, vi p, vi i, vl u, vi ee] σ (fun r σ' => r = some (vi (sdo (lk F d 0) (cN F d M) (i : Int) (dy u (ee : Int)))) ∧ (∃ (C' x' : Int), kat σ' m p i F d M C' (j + (44 + ee - j)) x') ∧ rfF σ σ' m p i) := by
  have hLL := hL
  obtain ⟨hM0, hM1, hM2, hM3, hM4, hM5, hM6, hM7, hM8, hM9⟩ := hL
  obtain ⟨sN, hsN⟩ := hg.rs
  have hJ : ∃ J, J = j + (44 + ee - j) := ⟨_, rfl⟩
  obtain ⟨J, hJ⟩ := hJ
  have hub : hid ((u.natAbs : Int) < 65536 ^ 5) := lh16 (x := 64) (Nat.le_trans (show u.natAbs ≤ 2 ^ 63 by omega) (Nat.pow_le_pow_right (by omega) (by omega))) (by decide)
  refine q_start [some (.ref m), some (vi p), some (vi i), some (vl u), none, some (vi ee), none, none] (by decide) (Nat.le_of_ble_eq_true rfl) (fun q h => h) ?_
  refine q_aload_n d_Mo_sideOfRoot_0 rfl ?_
  refine q_iload_n d_Mo_sideOfRoot_1 rfl ?_
  refine q_iload_n d_Mo_sideOfRoot_2 rfl ?_
  refine q_iload d_Mo_sideOfRoot_3 rfl ?_
  refine q_callV (As := [vi p, vi i, vi ee]) (al_Mo_refinesTo l K hLL hp hi hg h1 hq hk (by omega) (by omega)) w_cd_Mo_refinesTo w_ini_Mo w_ml_Mo_159 w_im_Mo_refinesTo w_se_Mo_refinesTo hM0 rfl hd_Mo_refinesTo rfl (Nat.le_of_ble_eq_true rfl) d_Mo_sideOfRoot_5 (by decide) (by decide) (fun v σ1 hp => ?_)
  obtain ⟨rfl, ⟨C', x', k1⟩, k2⟩ := hp
  have hx01 : x' = 0 ∨ x' = 1 := by rcases k1.2.2.2.2.2 with ⟨h9, -⟩ | ⟨h9, -⟩ <;> omega
  rw [← hJ] at k1
  have hside := rce_side (y := u * 2 ^ (J - 44 - ee)) hsN (by omega) k1.2.2.2 (by omega)
  have hdy : ((u * 2 ^ (J - 44 - ee) : Int) : Rat) / ((2 ^ (J - 44) : Int) : Rat) = dy u (ee : Int) := by
    rw [← dy_div, ← dy_k u (ee : Int) (J - 44 - ee)]
    congr 1
    omega
  rw [hdy] at hside
  have hfr := hg.fitR k1.2.2.2.1 k1.2.2.2.2.1 (by omega)
  refine q_aload_n d_Mo_sideOfRoot_8 rfl ?_
  refine q_bipush d_Mo_sideOfRoot_9 (by decide) ?_
  refine q_iload_n d_Mo_sideOfRoot_11 rfl ?_
  refine q_iload_n d_Mo_sideOfRoot_12 rfl ?_
  refine q_callV (As := [vi 113, vi p, vi i]) (c_Mo_lowOf l K (o := 113) (p := p) (i := i) (j := J) (u := 126) hLL (by decide) (by decide) hp hi k1.2.1 k1.1 hfr.1 (by omega) (by decide)) w_cd_Mo_lowOf w_ini_Mo w_ml_Mo_162 w_im_Mo_lowOf w_se_Mo_lowOf hM0 rfl hd_Mo_lowOf rfl (Nat.le_of_ble_eq_true rfl) d_Mo_sideOfRoot_13 (by decide) (by decide) (fun v σ2 hp => ?_)
  obtain ⟨rfl, k3, k4, k5⟩ := hp
  refine q_ist_6 d_Mo_sideOfRoot_16 (by decide) rfl ?_
  refine q_aload_n d_Mo_sideOfRoot_18 rfl ?_
  refine q_bipush d_Mo_sideOfRoot_19 (by decide) ?_
  refine q_lload_n d_Mo_sideOfRoot_21 rfl ?_
  refine q_callV (As := [vi 114, vl u]) (q_Mo_set l K σ2 (r := 114) (v := u) hLL (by decide) hu) w_cd_Mo_set w_ini_Mo w_ml_Mo_72 w_im_Mo_set w_se_Mo_set hM0 rfl hd_Mo_set rfl (Nat.le_of_ble_eq_true rfl) d_Mo_sideOfRoot_22 (by decide) (by decide) (fun v σ3 hp => ?_)
  obtain ⟨rfl, k6, k7, -, k8⟩ := hp
  refine q_aload_n d_Mo_sideOfRoot_25 rfl ?_
  refine q_bipush d_Mo_sideOfRoot_26 (by decide) ?_
  refine q_bipush d_Mo_sideOfRoot_28 (by decide) ?_
  refine q_iload d_Mo_sideOfRoot_30 rfl ?_
  refine q_iload d_Mo_sideOfRoot_32 rfl ?_
  refine q_isub d_Mo_sideOfRoot_34 ?_
  refine q_topi (show ((J - 44 : Nat) : Int) - (ee : Int) = ((J - 44 - ee : Nat) : Int) by omega) ?_
  refine q_callV (As := [vi 114, vi 114, vi ((J - 44 - ee : Nat) : Int)]) (c_Mo_lift l K (r := 114) (i := 114) (p := J - 44 - ee) (u := 5) hLL (by decide) (by decide) k6 hub (by omega)) w_cd_Mo_lift w_ini_Mo w_ml_Mo_108 w_im_Mo_lift w_se_Mo_lift hM0 rfl hd_Mo_lift rfl (Nat.le_of_ble_eq_true rfl) d_Mo_sideOfRoot_35 (by decide) (by decide) (fun v σ4 hp => ?_)
  obtain ⟨rfl, k9, k10, k11⟩ := hp
  have o4 : rO σ1 σ4 m := (k4.trans k7).trans k10
  have e4 : ∀ r, r ≠ 113 → r ≠ 105 → r ≠ 114 → rE σ1 σ4 m r := fun r a1 a2 a3 => ((k5 r a1 a2).trans (k8 r a3)).trans (k11 r a3)
  have f4 : rfF σ σ4 m p i := k2.trans (scr.rf o4 (fun r h => e4 r (by omega) (by omega) (by omega)))
  have c4 : kat σ4 m p i F d M C' J x' := k1.scr o4 (e4 _ (by omega) (by omega) (by omega))
  have s13 : rV σ4 m 113 (lowv C' J) := ((k3.mv (k8 _ (by decide))).mv (k11 _ (by decide)))
  refine q_aload_n d_Mo_sideOfRoot_38 rfl ?_
  refine q_bipush d_Mo_sideOfRoot_39 (by decide) ?_
  refine q_bipush d_Mo_sideOfRoot_41 (by decide) ?_
  refine q_callV (As := [vi 113, vi 114]) (c_Mo_compareRows l K (i := 113) (j := 114) hLL (by decide) (by decide) s13 k9) w_cd_Mo_compareRows w_ini_Mo w_ml_Mo_165 w_im_Mo_compareRows w_se_Mo_compareRows hM0 rfl hd_Mo_compareRows rfl (Nat.le_of_ble_eq_true rfl) d_Mo_sideOfRoot_43 (by decide) (by decide) (fun v σ9 hp => ?_)
  obtain ⟨rfl, hσ⟩ := hp
  rw [hσ]
  clear hσ σ9
  have hsb := Int.sign_trichotomy (lowv C' J - u * 2 ^ (J - 44 - ee))
  refine q_ist_7 d_Mo_sideOfRoot_46 (by decide) rfl ?_
  refine q_aload_n d_Mo_sideOfRoot_48 rfl ?_
  refine q_gr hM0 pc_Mo 6 (by decide) w_fl_Mo_26 rfl (by rfl) d_Mo_sideOfRoot_49 ?_
  refine q_bipush d_Mo_sideOfRoot_52 (by decide) ?_
  refine q_iload_n d_Mo_sideOfRoot_54 rfl ?_
  refine q_imul d_Mo_sideOfRoot_55 ?_
  refine q_iload_n d_Mo_sideOfRoot_56 rfl ?_
  refine q_iadd d_Mo_sideOfRoot_57 ?_
  refine q_zal (8 * p + i) (by assumption) (by omega) (by omega) (by omega) d_Mo_sideOfRoot_58 ?_
  refine q_topi c4.2.2.1 ?_
  refine q_if_eq (tgt := 65) (by omega) d_Mo_sideOfRoot_59 (by decide) (fun cx => ?_) (fun cx => ?_)
  · refine q_iload d_Mo_sideOfRoot_65 rfl ?_
    refine q_if_lt (tgt := 74) (by omega) d_Mo_sideOfRoot_67 (by decide) (fun cs => ?_) (fun cs => ?_)
    · refine q_iconst d_Mo_sideOfRoot_74 rfl ?_
      exact q_iret rfl (⟨by rw [hside, if_pos cx, if_pos cs], ⟨C', x', by rw [← hJ]; exact c4⟩, f4⟩) d_Mo_sideOfRoot_75
    · refine q_iconst d_Mo_sideOfRoot_70 rfl ?_
      refine q_goto (tgt := 75) d_Mo_sideOfRoot_71 (by decide) ?_
      exact q_iret rfl (⟨by rw [hside, if_pos cx, if_neg (by omega)], ⟨C', x', by rw [← hJ]; exact c4⟩, f4⟩) d_Mo_sideOfRoot_75
  · refine q_iload d_Mo_sideOfRoot_62 rfl ?_
    exact q_iret rfl (⟨by rw [hside, if_neg cx], ⟨C', x', by rw [← hJ]; exact c4⟩, f4⟩) d_Mo_sideOfRoot_64
