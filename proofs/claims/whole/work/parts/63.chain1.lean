/-! CHAIN: last, deriveHead -/
set_option maxHeartbeats 4000000 in
set_option maxRecDepth 100000 in
theorem c_Ch_last (l : Launch) (K : pw_K) {L : q_L} {σ : q_S} {a h n : Nat} (hL : chL L a h) (hn : σ a 1 = n) (hn1 : n ≤ 10) : q_C l K L y_Ch_last b_Ch_last 1 (some (.object "SturmDesk$Poly")) 1 [.ref a] σ (fun v σ' => v = some (.ref (a + chO h (n - 1))) ∧ σ' = σ) := by
  obtain ⟨hc0, ⟨g, hg1, hg2⟩, hpl⟩ := hL
  refine q_start [some (.ref a)] (by decide) (Nat.le_of_ble_eq_true rfl) (fun q h => h) ?_
  refine q_aload_n d_Ch_last_0 rfl ?_
  refine q_gr hc0 pc_Ch 0 (by decide) w_fl_Ch_11 rfl (by rfl) d_Ch_last_1 ?_
  refine q_iconst d_Ch_last_4 rfl ?_
  refine q_aload_n d_Ch_last_5 rfl ?_
  refine q_gi hc0 pc_Ch 1 (by decide) w_fl_Ch_18 rfl (by rfl) d_Ch_last_6 ?_
  refine q_topi hn ?_
  refine q_iconst d_Ch_last_9 rfl ?_
  refine q_isub d_Ch_last_10 ?_
  refine q_mmax (by omega) (by omega) w_ml_Ch_22 d_Ch_last_11 (by decide) (Nat.le_of_ble_eq_true rfl) ?_
  refine q_topi (show _ = ((n - 1 : Nat) : Int) by omega) ?_
  refine q_aal (n - 1) 5 (b := a + chO h (n - 1)) rfl hg1 (by omega) (by omega) (by omega) (hg2 _ (by omega)) d_Ch_last_14 ?_
  exact q_aret rfl (⟨rfl, rfl⟩) d_Ch_last_15
set_option maxHeartbeats 4000000 in
set_option maxRecDepth 100000 in
theorem c_Ch_deriveHead (l : Launch) (K : pw_K) {L : q_L} {σ : q_S} {a h n : Nat} {P : Nat → Int} (hL : chL L a h) (hn1 : 1 ≤ n) (hn9 : n ≤ 9) (hnh : n ≤ h) (hlead : P (n - 1) ≠ 0) (hd : σ (a + chO h 0) 1 = (n : Int) - 1) (hP : ∀ k, k < n → nV σ (a + chO h 0 + 2 + 2 * k) 48 (P k)) (hb : ∀ k, k < n → ((P k).natAbs : Int) < 2147483648 ^ (48 - 1)) : q_C l K L y_Ch_deriveHead b_Ch_deriveHead 1 none 3 [.ref a] σ (fun v σ' => v = none ∧ σ' (a + chO h 1) 1 = (top (fun k => P (k + 1) * ((k : Int) + 1)) (n - 1) : Int) - 1 ∧ (∀ k, k < n - 1 → nV σ' (a + chO h 1 + 2 + 2 * k) 48 (P (k + 1) * ((k : Int) + 1))) ∧ (∀ q, (q < a + chO h 1 ∨ a + chO h 1 + 20 ≤ q) → σ' q = σ q)) := by
  obtain ⟨hc0, ⟨g, hg1, hg2⟩, hpl⟩ := hL
  have hp0 : pL L (a + chO h 0) h 48 := hpl 0 (by decide)
  have hp1 : pL L (a + chO h 1) 9 48 := hpl 1 (by decide)
  have ho0 : chO h 0 = 2 := rfl
  have ho1 : chO h 1 = 4 + 2 * h := by simp [chO]
  refine q_start [some (.ref a)] (by decide) (Nat.le_of_ble_eq_true rfl) (fun q h => h) ?_
  refine q_aload_n d_Ch_deriveHead_0 rfl ?_
  refine q_gr hc0 pc_Ch 0 (by decide) w_fl_Ch_11 rfl (by rfl) d_Ch_deriveHead_1 ?_
  refine q_iconst d_Ch_deriveHead_4 rfl ?_
  refine q_aal (1) 5 (b := a + chO h 1) rfl hg1 (by omega) (by omega) (by omega) (hg2 1 (by omega)) d_Ch_deriveHead_5 ?_
  refine q_aload_n d_Ch_deriveHead_6 rfl ?_
  refine q_gr hc0 pc_Ch 0 (by decide) w_fl_Ch_11 rfl (by rfl) d_Ch_deriveHead_7 ?_
  refine q_iconst d_Ch_deriveHead_10 rfl ?_
  refine q_aal (0) 5 (b := a + chO h 0) rfl hg1 (by omega) (by omega) (by omega) (hg2 0 (by omega)) d_Ch_deriveHead_11 ?_
  refine q_callV (As := [.ref (a + chO h 0)]) (c_Py_copy l K (n := n) (P := P) hp1 hp0 (by decide) hn9 hnh (by omega) hd hP (fun k hk => by have := hb k hk; have := ip_le (B := 2147483648) (by decide) (show 48 - 1 ≤ 48 by decide); omega)) w_cd_Py_copy w_ini_Py w_ml_Ch_28 w_im_Py_copy w_se_Py_copy hp1.1 rfl hd_Py_copy rfl (Nat.le_of_ble_eq_true rfl) d_Ch_deriveHead_12 (by decide) (by decide) (fun v σ1 hp => ?_)
  obtain ⟨rfl, k1, k2, k3⟩ := hp
  rw [top_full (by omega) hlead] at k1
  refine q_aload_n d_Ch_deriveHead_15 rfl ?_
  refine q_gr hc0 pc_Ch 0 (by decide) w_fl_Ch_11 rfl (by rfl) d_Ch_deriveHead_16 ?_
  refine q_iconst d_Ch_deriveHead_19 rfl ?_
  refine q_aal (1) 5 (b := a + chO h 1) rfl hg1 (by omega) (by omega) (by omega) (hg2 1 (by omega)) d_Ch_deriveHead_20 ?_
  refine q_callV (As := []) (c_Py_derive l K (n := n) (P := P) hp1 hn9 hn1 (by decide) k1 k2 hb) w_cd_Py_derive w_ini_Py w_ml_Ch_32 w_im_Py_derive w_se_Py_derive hp1.1 rfl hd_Py_derive rfl (Nat.le_of_ble_eq_true rfl) d_Ch_deriveHead_21 (by decide) (by decide) (fun v σ2 hp => ?_)
  obtain ⟨rfl, k4, k5, k6⟩ := hp
  exact q_vret rfl (⟨rfl, k4, k5, fun q hq => by rw [k6 q (by omega)]; exact k3 q (by omega)⟩) d_Ch_deriveHead_24
