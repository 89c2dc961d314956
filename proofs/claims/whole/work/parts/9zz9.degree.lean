/-! DEGREE, over the store -/
set_option maxHeartbeats 4000000 in
set_option maxRecDepth 100000 in
theorem q_Mo_degree (l : Launch) (K : pw_K) {L : q_L} {σ : q_S} {m p : Nat} {n : Int} (hL : mL L m) (hp : p < 2) (hd : σ (m + 4) p = n) (hn : -1 ≤ n ∧ n ≤ 8) : q_C l K L y_Mo_degree b_Mo_degree 2 (some .int) 1 [.ref m, vi p] σ (fun r σ' => r = some (vi n) ∧ σ' = q_up σ m 0 0) := by
  have hLL := hL
  obtain ⟨hM0, hM1, hM2, hM3, hM4, hM5, hM6, hM7, hM8, hM9⟩ := hL
  refine q_start [some (.ref m), some (vi p)] (by decide) (Nat.le_of_ble_eq_true rfl) (fun q h => h) ?_
  refine q_aload_n d_Mo_degree_0 rfl ?_
  refine q_iload_n d_Mo_degree_1 rfl ?_
  refine q_i2l (by omega) d_Mo_degree_2 ?_
  refine q_lconst (z := 0) d_Mo_degree_3 (by decide) ?_
  refine q_lconst (z := 1) d_Mo_degree_4 (by decide) ?_
  refine q_callS (As := [vl (p : Int), vl 0, vl 1]) (q_Mo_in l K L σ (by omega) (by omega) (by omega)) w_cd_Mo_in w_ini_Mo w_ml_Mo_140 w_st_Mo_in hd_Mo_in rfl (Nat.le_of_ble_eq_true rfl) d_Mo_degree_5 (by decide) (by decide) (fun v σ9 hp => ?_)
  obtain ⟨rfl, hσ⟩ := hp
  rw [hσ, if_pos (by omega)]
  clear hσ σ9
  refine q_if_ne (tgt := 15) (by decide) d_Mo_degree_8 (by decide) (fun c8 => ?_) (fun c8 => absurd c8 (by decide))
  refine q_iconst d_Mo_degree_15 rfl ?_
  refine q_iconst d_Mo_degree_16 rfl ?_
  refine q_callV (As := [vi 0, vi 1]) (q_Mo_fails0 l K _ hLL) w_cd_Mo_fails w_ini_Mo w_ml_Mo_146 w_im_Mo_fails w_se_Mo_fails hM0 rfl hd_Mo_fails rfl (Nat.le_of_ble_eq_true rfl) d_Mo_degree_17 (by decide) (by decide) (fun v σ9 hp => ?_)
  obtain ⟨rfl, hσ⟩ := hp
  rw [hσ]
  clear hσ σ9
  refine q_if_eq (tgt := 27) (by decide) d_Mo_degree_20 (by decide) (fun c20 => ?_) (fun c20 => absurd c20 (by decide))
  refine q_aload_n d_Mo_degree_27 rfl ?_
  refine q_gr hM0 pc_Mo 4 (by decide) w_fl_Mo_20 rfl (by rfl) d_Mo_degree_28 ?_
  refine q_iload_n d_Mo_degree_31 rfl ?_
  refine q_ial (p) (by assumption) (by omega) (by omega) (by omega) d_Mo_degree_32 ?_
  refine q_topi (show _ = n by rw [q_up_a _ _ (by omega)]; exact hd) ?_
  exact q_iret rfl (⟨rfl, rfl⟩) d_Mo_degree_33
set_option maxHeartbeats 4000000 in
set_option maxRecDepth 100000 in
theorem q_D_degree (l : Launch) (K : pw_K) {L : q_L} {σ : q_S} {x j : Nat} {n : Int} (hD : dL L x) (hj : j < 2) (hdeg : σ (x + 2 + 177 * j + 2) 1 = n) (hn : -1 ≤ n ∧ n ≤ 8) : q_C l K L y_D_degree b_D_degree 2 (some .int) 9 [.ref x, vi j] σ (fun r σ' => r = some (vi n) ∧ σ' = σ) := by
  obtain ⟨hD0, ⟨dg', hdg1, hdg2⟩, hHe, hbe, hqu, htx⟩ := hD
  have hH := hHe j hj
  refine q_start [some (.ref x), some (vi j)] (by decide) (Nat.le_of_ble_eq_true rfl) (fun q h => h) ?_
  refine q_aload_n d_D_degree_0 rfl ?_
  refine q_iload_n d_D_degree_1 rfl ?_
  refine q_callV (As := [vi j]) (q_D_checkPolynomial l K L σ x (by omega)) w_cd_D_checkPolynomial w_ini_D w_ml_D_37 w_im_D_checkPolynomial w_se_D_checkPolynomial hD0 rfl hd_D_checkPolynomial rfl (Nat.le_of_ble_eq_true rfl) d_D_degree_2 (by decide) (by decide) (fun v σ9 hp => ?_)
  obtain ⟨rfl, hσ⟩ := hp
  rw [hσ]
  clear hσ σ9
  refine q_aload_n d_D_degree_5 rfl ?_
  refine q_gr hD0 pc_D 0 (by decide) w_fl_D_11 rfl (by rfl) d_D_degree_6 ?_
  refine q_iload_n d_D_degree_9 rfl ?_
  refine q_aal (j) 7 (b := x + 2 + 177 * j) rfl hdg1 (by omega) (by omega) (by omega) (hdg2 _ hj) d_D_degree_10 ?_
  refine q_gr hH.1 pc_He 1 (by decide) w_fl_D_52 rfl (by rfl) d_D_degree_11 ?_
  refine q_gi hH.2.2.1.1 pc_Py 1 (by decide) w_fl_D_56 rfl (by rfl) d_D_degree_14 ?_
  refine q_topi hdeg ?_
  exact q_iret rfl (⟨rfl, rfl⟩) d_D_degree_17
