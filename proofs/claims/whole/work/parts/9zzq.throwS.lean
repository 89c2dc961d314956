/-! THE DESK: signAt with no polynomial there -/
set_option maxHeartbeats 4000000 in
set_option maxRecDepth 100000 in
theorem k_D_signAt1 (l : Launch) (hfl : nTr l) (K : pw_K) {L : q_L} {σ : q_S} {x j : Nat} (hD : dL L x) (hj : j < 2) (hd : σ (x + 2 + 177 * j + 2) 1 = -1) {zi : Int} : q_K l K L y_D_signAt b_D_signAt 5 (some .int) 9 [.ref x, vi j, vi zi] σ sISE (fun σ' => σ' = σ) := by
  have hDL := hD
  obtain ⟨hD0, ⟨dg', hdg1, hdg2⟩, hHe, hbe, hqu, htx⟩ := hD
  refine x_start [some (.ref x), some (vi j), some (vi zi), none, none] (by decide) (Nat.le_of_ble_eq_true rfl) (fun q h => h) ?_
  refine x_aload_n d_D_signAt_0 rfl ?_
  refine x_iload_n d_D_signAt_1 rfl ?_
  refine x_callV (As := [vi j]) (q_D_checkPolynomial l K L σ x (by omega)) w_cd_D_checkPolynomial w_ini_D w_ml_D_37 w_im_D_checkPolynomial w_se_D_checkPolynomial hD0 rfl hd_D_checkPolynomial rfl (Nat.le_of_ble_eq_true rfl) d_D_signAt_2 (by decide) (by decide) (fun v σ9 hp => ?_)
  obtain ⟨rfl, hσ⟩ := hp
  rw [hσ]
  clear hσ σ9
  refine x_aload_n d_D_signAt_5 rfl ?_
  refine x_iload_n d_D_signAt_6 rfl ?_
  exact x_callT (As := [vi (j : Int)]) (x_some hfl hDL hj hd) w_cd_D_some w_ini_D w_ml_D_62 w_im_D_some w_se_D_some hD0 rfl hd_D_some rfl (Nat.le_of_ble_eq_true rfl) d_D_signAt_7 (by decide) (by decide) (rfl)
