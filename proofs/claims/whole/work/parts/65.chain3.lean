/-! CHAIN: realRoots -/
set_option maxHeartbeats 4000000 in
set_option maxRecDepth 100000 in
theorem c_Ch_realRoots (l : Launch) (K : pw_K) {L : q_L} {σ : q_S} {a h n : Nat} {dn : Nat → Nat} {P : Nat → Nat → Int} (hL : chL L a h) (hn : σ a 1 = n) (hn1 : n ≤ 10) (hdn : ∀ k, k < n → dn k ≤ chN h k) (hdeg : ∀ k, k < n → σ (a + chO h k) 1 = (dn k : Int) - 1) (hP : ∀ k, k < n → ∀ i, i < dn k → nV σ (a + chO h k + 2 + 2 * i) 48 (P k i)) : q_C l K L y_Ch_realRoots b_Ch_realRoots 1 (some .int) 2 [.ref a] σ (fun v σ' => v = some (vi ((vr (fun k => fs (-1) (dn k) (P k (dn k - 1))) n).1 - (vr (fun k => fs 1 (dn k) (P k (dn k - 1))) n).1)) ∧ σ' = σ) := by
  have hc0 := hL.1
  refine q_start [some (.ref a)] (by decide) (Nat.le_of_ble_eq_true rfl) (fun q h => h) ?_
  refine q_aload_n d_Ch_realRoots_0 rfl ?_
  refine q_iconst d_Ch_realRoots_1 rfl ?_
  refine q_callV (As := [vi (-1)]) (c_Ch_changesFar l K (w := (-1)) hL hn hn1 (Or.inr rfl) hdn hdeg hP) w_cd_Ch_changesFar w_ini_Ch w_ml_Ch_132 w_im_Ch_changesFar w_se_Ch_changesFar hc0 rfl hd_Ch_changesFar rfl (Nat.le_of_ble_eq_true rfl) d_Ch_realRoots_2 (by decide) (by decide) (fun v σ9 hp => ?_)
  obtain ⟨rfl, hσ⟩ := hp
  rw [hσ]
  clear hσ σ9
  refine q_aload_n d_Ch_realRoots_5 rfl ?_
  refine q_iconst d_Ch_realRoots_6 rfl ?_
  refine q_callV (As := [vi 1]) (c_Ch_changesFar l K (w := 1) hL hn hn1 (Or.inl rfl) hdn hdeg hP) w_cd_Ch_changesFar w_ini_Ch w_ml_Ch_132 w_im_Ch_changesFar w_se_Ch_changesFar hc0 rfl hd_Ch_changesFar rfl (Nat.le_of_ble_eq_true rfl) d_Ch_realRoots_7 (by decide) (by decide) (fun v σ9 hp => ?_)
  obtain ⟨rfl, hσ⟩ := hp
  rw [hσ]
  clear hσ σ9
  refine q_isub d_Ch_realRoots_10 ?_
  exact q_iret rfl (⟨rfl, rfl⟩) d_Ch_realRoots_11
