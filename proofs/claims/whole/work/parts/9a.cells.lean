/-! THE REFERENCE: cell, keep, sideOf, lowOf -/
set_option maxHeartbeats 4000000 in
set_option maxRecDepth 100000 in
theorem c_Mo_cell (l : Launch) (K : pw_K) {L : q_L} {σ : q_S} {m p i : Nat} (hp : p < 2) (hi : i < 8) : q_C l K L y_Mo_cell b_Mo_cell 3 (some .int) 0 [.ref m, vi p, vi i] σ (fun v σ' => v = some (vi ((140 + 8 * p + i : Nat) : Int)) ∧ σ' = σ) := by
  refine q_start [some (.ref m), some (vi p), some (vi i)] (by decide) (Nat.le_of_ble_eq_true rfl) (fun q h => h) ?_
  refine q_sipush d_Mo_cell_0 (by decide) ?_
  refine q_bipush d_Mo_cell_3 (by decide) ?_
  refine q_iload_n d_Mo_cell_5 rfl ?_
  refine q_imul d_Mo_cell_6 ?_
  refine q_iadd d_Mo_cell_7 ?_
  refine q_iload_n d_Mo_cell_8 rfl ?_
  refine q_iadd d_Mo_cell_9 ?_
  refine q_topi (show _ = ((140 + 8 * p + i : Nat) : Int) by omega) ?_
  exact q_iret rfl (⟨rfl, rfl⟩) d_Mo_cell_10
set_option maxHeartbeats 4000000 in
set_option maxRecDepth 100000 in
theorem c_Mo_keep (l : Launch) (K : pw_K) {L : q_L} {σ : q_S} {m p c fd : Nat} {j is C : Int} (hL : mL L m) (hp : p < 2) (hc : c < 160) (hfd : fd < 8) (hf : σ (m + 7) p = fd) (his : is = 0 ∨ is = 1) (hC : rV σ m c C) : q_C l K L y_Mo_keep b_Mo_keep 6 none 2 [.ref m, vi p, vi c, vi j, vi is] σ (fun v σ' => v = none ∧ rV σ' m (140 + 8 * p + fd) C ∧ σ' (m + 5) (8 * p + fd) = j ∧ σ' (m + 6) (8 * p + fd) = is ∧ σ' (m + 7) p = (fd : Int) + 1 ∧ (∀ r, r ≠ 140 + 8 * p + fd → rE σ σ' m r) ∧ (∀ k, k ≠ 8 * p + fd → σ' (m + 5) k = σ (m + 5) k ∧ σ' (m + 6) k = σ (m + 6) k) ∧ (∀ k, k ≠ p → σ' (m + 7) k = σ (m + 7) k) ∧ ∀ q, q ≠ m + 1 → q ≠ m + 2 → q ≠ m + 3 → q ≠ m + 5 → q ≠ m + 6 → q ≠ m + 7 → q ≠ m + 9 → σ' q = σ q) := by
  obtain ⟨hM0, hM1, hM2, hM3, hM4, hM5, hM6, hM7, hM8, hM9⟩ := hL
  refine q_start [some (.ref m), some (vi p), some (vi c), some (vi j), some (vi is), none] (by decide) (Nat.le_of_ble_eq_true rfl) (fun q h => h) ?_
  refine q_bipush d_Mo_keep_0 (by decide) ?_
  refine q_iload_n d_Mo_keep_2 rfl ?_
  refine q_imul d_Mo_keep_3 ?_
  refine q_aload_n d_Mo_keep_4 rfl ?_
  refine q_gr (by assumption) pc_Mo 7 (by decide) w_fl_Mo_30 rfl (by rfl) d_Mo_keep_5 ?_
  refine q_iload_n d_Mo_keep_8 rfl ?_
  refine q_ial (p) (by assumption) (by omega) (by omega) (by omega) d_Mo_keep_9 ?_
  refine q_topi hf ?_
  refine q_iadd d_Mo_keep_10 ?_
  refine q_topi (show _ = ((8 * p + fd : Nat) : Int) by omega) ?_
  refine q_ist_5 d_Mo_keep_11 (by decide) rfl ?_
  refine q_aload_n d_Mo_keep_13 rfl ?_
  refine q_aload_n d_Mo_keep_14 rfl ?_
  refine q_iload_n d_Mo_keep_15 rfl ?_
  refine q_aload_n d_Mo_keep_16 rfl ?_
  refine q_gr (by assumption) pc_Mo 7 (by decide) w_fl_Mo_30 rfl (by rfl) d_Mo_keep_17 ?_
  refine q_iload_n d_Mo_keep_20 rfl ?_
  refine q_ial (p) (by assumption) (by omega) (by omega) (by omega) d_Mo_keep_21 ?_
  refine q_topi hf ?_
  refine q_callV (As := [vi p, vi fd]) (c_Mo_cell l K (p := p) (i := fd) hp hfd) w_cd_Mo_cell w_ini_Mo w_ml_Mo_115 w_im_Mo_cell w_se_Mo_cell (by assumption) rfl hd_Mo_cell rfl (Nat.le_of_ble_eq_true rfl) d_Mo_keep_22 (by decide) (by decide) (fun v σ9 hp => ?_)
  obtain ⟨rfl, hσ⟩ := hp
  rw [hσ]
  clear hσ σ9
  refine q_iload_n d_Mo_keep_25 rfl ?_
  refine q_callV (As := [vi ((140 + 8 * p + fd : Nat) : Int), vi c]) (c_Mo_copy l K (r := 140 + 8 * p + fd) (i := c) ⟨hM0, hM1, hM2, hM3, hM4, hM5, hM6, hM7, hM8, hM9⟩ (by omega) hc hC) w_cd_Mo_copy w_ini_Mo w_ml_Mo_69 w_im_Mo_copy w_se_Mo_copy (by assumption) rfl hd_Mo_copy rfl (Nat.le_of_ble_eq_true rfl) d_Mo_keep_26 (by decide) (by decide) (fun v σ1 hp => ?_)
  obtain ⟨rfl, k1, k2, k3, k4⟩ := hp
  refine q_aload_n d_Mo_keep_29 rfl ?_
  refine q_gr (by assumption) pc_Mo 5 (by decide) w_fl_Mo_23 rfl (by rfl) d_Mo_keep_30 ?_
  refine q_iload d_Mo_keep_33 rfl ?_
  refine q_iload_n d_Mo_keep_35 rfl ?_
  refine q_ias (8 * p + fd) (by assumption) (by omega) (by omega) (by omega) d_Mo_keep_36 ?_
  refine q_aload_n d_Mo_keep_37 rfl ?_
  refine q_gr (by assumption) pc_Mo 6 (by decide) w_fl_Mo_26 rfl (by rfl) d_Mo_keep_38 ?_
  refine q_iload d_Mo_keep_41 rfl ?_
  refine q_iload d_Mo_keep_43 rfl ?_
  refine q_zas (8 * p + fd) (by assumption) (by omega) (by omega) (by omega) his d_Mo_keep_45 ?_
  refine q_aload_n d_Mo_keep_46 rfl ?_
  refine q_gr (by assumption) pc_Mo 7 (by decide) w_fl_Mo_30 rfl (by rfl) d_Mo_keep_47 ?_
  refine q_iload_n d_Mo_keep_50 rfl ?_
  refine q_dup2 d_Mo_keep_51 rfl rfl ?_
  refine q_ial (p) (by assumption) (by omega) (by omega) (by omega) d_Mo_keep_52 ?_
  refine q_topi (show _ = (fd : Int) by rw [q_up_a _ _ (by omega), q_up_a _ _ (by omega), k2 _ (by omega) (by omega) (by omega) (by omega)]; exact hf) ?_
  refine q_iconst d_Mo_keep_53 rfl ?_
  refine q_iadd d_Mo_keep_54 ?_
  refine q_ias (p) (by assumption) (by omega) (by omega) (by omega) d_Mo_keep_55 ?_
  exact q_vret rfl (⟨rfl, k1.mv ⟨fun u hu => by rw [mr_o _ _ (by omega), mr_o _ _ (by omega)]; exact mr_o _ _ (by omega), by rw [q_up_a _ _ (by omega), q_up_a _ _ (by omega), q_up_a _ _ (by omega)], by rw [q_up_a _ _ (by omega), q_up_a _ _ (by omega), q_up_a _ _ (by omega)]⟩, by rw [q_up_a _ _ (by omega), q_up_a _ _ (by omega), q_up_self], by rw [q_up_a _ _ (by omega), q_up_self], by rw [q_up_self], fun r hr => (k4 r hr).trans ⟨fun u hu => by rw [mr_o _ _ (by omega), mr_o _ _ (by omega)]; exact mr_o _ _ (by omega), by rw [q_up_a _ _ (by omega), q_up_a _ _ (by omega), q_up_a _ _ (by omega)], by rw [q_up_a _ _ (by omega), q_up_a _ _ (by omega), q_up_a _ _ (by omega)]⟩, fun k hk => ⟨by rw [q_up_a _ _ (by omega), q_up_a _ _ (by omega), q_up_k _ _ hk, k2 _ (by omega) (by omega) (by omega) (by omega)], by rw [q_up_a _ _ (by omega), q_up_k _ _ hk, q_up_a _ _ (by omega), k2 _ (by omega) (by omega) (by omega) (by omega)]⟩, fun k hk => by rw [q_up_k _ _ hk, q_up_a _ _ (by omega), q_up_a _ _ (by omega), k2 _ (by omega) (by omega) (by omega) (by omega)], fun q h1 h2 h3 h4 h5 h6 h7 => by rw [q_up_a _ _ h6, q_up_a _ _ h5, q_up_a _ _ h4]; exact k2 q h1 h2 h3 h7⟩) d_Mo_keep_56
set_option maxHeartbeats 4000000 in
set_option maxRecDepth 100000 in
theorem c_Mo_sideOf (l : Launch) (K : pw_K) {L : q_L} {σ : q_S} {m p w n ex u v c : Nat} {X : Int} {P : Nat → Int} (hL : mL L m) (hp : p < 7 ∨ (7 < p ∧ p < 10)) (hw : w < 160) (hw1 : w = 105 ∨ 106 ≤ w) (hn : n ≤ 8) (hn1 : 1 ≤ n) (hexr : ex < 100000) (hdeg : σ (m + 4) p = n) (hP : ∀ k, k ≤ n → rV σ m (9 * p + k) (P k)) (hX : rV σ m w X) (hXb : (X.natAbs : Int) < 65536 ^ v) (hPb : ∀ k, k ≤ n → ((P k).natAbs : Int) < 65536 ^ c) (hH : ∀ i, i ≤ n → ((hv P n X ex i).natAbs : Int) < 65536 ^ u) (hH2 : ∀ i, i ≤ n - 1 → ((hv (fun k => P (k + 1) * ((k : Int) + 1)) (n - 1) X ex i).natAbs : Int) < 65536 ^ u) (huv : u + v ≤ 1023) (hcw : c + ex * n / 16 + 2 ≤ 1023) : q_C l K L y_Mo_sideOf b_Mo_sideOf 5 (some .int) 4 [.ref m, vi p, vi w, vi ex] σ (fun v σ' => v = some (vi (if (hv P n X ex (n + 1)).sign = 0 then (hv (fun k => P (k + 1) * ((k : Int) + 1)) (n - 1) X ex n).sign else (hv P n X ex (n + 1)).sign)) ∧ (∀ q, q ≠ m + 1 → q ≠ m + 2 → q ≠ m + 3 → q ≠ m + 4 → q ≠ m + 9 → σ' q = σ q) ∧ (∀ j, j ≠ 7 → σ' (m + 4) j = σ (m + 4) j) ∧ ∀ r, r ≠ 96 → r ≠ 103 → r ≠ 104 → (r < 63 ∨ 71 ≤ r) → rE σ σ' m r) := by
  obtain ⟨hM0, hM1, hM2, hM3, hM4, hM5, hM6, hM7, hM8, hM9⟩ := hL
  have r0 := sgn_b (hv P n X ex (n + 1))
  refine q_start [some (.ref m), some (vi p), some (vi w), some (vi ex), none] (by decide) (Nat.le_of_ble_eq_true rfl) (fun q h => h) ?_
  refine q_aload_n d_Mo_sideOf_0 rfl ?_
  refine q_iload_n d_Mo_sideOf_1 rfl ?_
  refine q_iload_n d_Mo_sideOf_2 rfl ?_
  refine q_iload_n d_Mo_sideOf_3 rfl ?_
  refine q_callV (As := [vi p, vi w, vi ex]) (c_Mo_signOf l K σ (u := u) (v := v) (c := c) (P := P) ⟨hM0, hM1, hM2, hM3, hM4, hM5, hM6, hM7, hM8, hM9⟩ (by omega) hw (by omega) (by omega) hn hexr hdeg hP hX hXb hPb hH huv (by omega)) w_cd_Mo_signOf w_ini_Mo w_ml_Mo_131 w_im_Mo_signOf w_se_Mo_signOf (by assumption) rfl hd_Mo_signOf rfl (Nat.le_of_ble_eq_true rfl) d_Mo_sideOf_4 (by decide) (by decide) (fun v σ1 hp => ?_)
  obtain ⟨rfl, k1, k2⟩ := hp
  refine q_ist_4 d_Mo_sideOf_7 (by decide) rfl ?_
  refine q_iload d_Mo_sideOf_9 rfl ?_
  refine q_if_eq (tgt := 17) (by omega) d_Mo_sideOf_11 (by decide) (fun cs => ?_) (fun cs => ?_)
  · refine q_aload_n d_Mo_sideOf_17 rfl ?_
    refine q_bipush d_Mo_sideOf_18 (by decide) ?_
    refine q_iload_n d_Mo_sideOf_20 rfl ?_
    refine q_callV (As := [vi 7, vi p]) (c_Mo_derive l K (p := 7) (i := p) (n := n + 1) (u := c) (P := P) ⟨hM0, hM1, hM2, hM3, hM4, hM5, hM6, hM7, hM8, hM9⟩ (by decide) (by omega) (by omega) (by omega) (by rw [k1 _ (by omega) (by omega) (by omega) (by omega), hdeg]; omega) (fun k hk => (hP k (by omega)).mv (k2 _ (by omega) (by omega))) (fun k hk => hPb k (by omega)) (by omega)) w_cd_Mo_derive w_ini_Mo w_ml_Mo_99 w_im_Mo_derive w_se_Mo_derive (by assumption) rfl hd_Mo_derive rfl (Nat.le_of_ble_eq_true rfl) d_Mo_sideOf_21 (by decide) (by decide) (fun v σ2 hp => ?_)
    obtain ⟨rfl, k3, k4, k5, k6, k7⟩ := hp
    rw [Nat.add_sub_cancel] at k3 k4
    refine q_aload_n d_Mo_sideOf_24 rfl ?_
    refine q_bipush d_Mo_sideOf_25 (by decide) ?_
    refine q_iload_n d_Mo_sideOf_27 rfl ?_
    refine q_iload_n d_Mo_sideOf_28 rfl ?_
    refine q_callV (As := [vi 7, vi w, vi ex]) (c_Mo_signOf l K σ2 (n := n - 1) (u := u) (v := v) (c := c + 1) (P := fun k => P (k + 1) * ((k : Int) + 1)) ⟨hM0, hM1, hM2, hM3, hM4, hM5, hM6, hM7, hM8, hM9⟩ (by decide) hw (by omega) (by omega) (by omega) hexr (by rw [k3]; omega) (fun k hk => k4 k (by omega)) ((hX.mv (k2 w (by omega) (by omega))).mv (k5 w (by omega) (by omega))) hXb (fun k hk => mul_lt_pow (hPb (k + 1) (by omega)) (by omega)) hH2 huv (by have := Nat.div_le_div_right (c := 16) (Nat.mul_le_mul_left ex (show n - 1 ≤ n by omega)); omega)) w_cd_Mo_signOf w_ini_Mo w_ml_Mo_131 w_im_Mo_signOf w_se_Mo_signOf (by assumption) rfl hd_Mo_signOf rfl (Nat.le_of_ble_eq_true rfl) d_Mo_sideOf_29 (by decide) (by decide) (fun v σ3 hp => ?_)
    obtain ⟨rfl, k8, k9⟩ := hp
    rw [show n - 1 + 1 = n by omega]
    exact q_iret rfl (⟨by rw [if_pos cs], fun q h1 h2 h3 h4 h5 => by rw [k8 q h1 h2 h3 h5, k7 q h1 h2 h3 h4 h5]; exact k1 q h1 h2 h3 h5, fun j hj => by rw [k8 _ (by omega) (by omega) (by omega) (by omega), k6 j hj, k1 _ (by omega) (by omega) (by omega) (by omega)], fun r h1 h2 h3 h4 => ((k2 r h2 h3).trans (k5 r h1 (by omega))).trans (k9 r h2 h3)⟩) d_Mo_sideOf_32
  · refine q_iload d_Mo_sideOf_14 rfl ?_
    exact q_iret rfl (⟨by rw [if_neg cs], fun q h1 h2 h3 h4 h5 => k1 q h1 h2 h3 h5, fun j hj => by rw [k1 _ (by omega) (by omega) (by omega) (by omega)], fun r h1 h2 h3 h4 => k2 r h2 h3⟩) d_Mo_sideOf_16
set_option maxHeartbeats 4000000 in
set_option maxRecDepth 100000 in
theorem c_Mo_lowOf (l : Launch) (K : pw_K) {L : q_L} {σ : q_S} {m o p i j u : Nat} {C : Int} (hL : mL L m) (ho : o < 160) (ho105 : o ≠ 105) (hp : p < 2) (hi : i < 8) (hj : σ (m + 5) (8 * p + i) = j) (hC : rV σ m (140 + 8 * p + i) C) (hCb : (C.natAbs : Int) < 65536 ^ u) (hju : j / 16 + 1 ≤ u) (hu : u + 5 ≤ 1024) : q_C l K L y_Mo_lowOf b_Mo_lowOf 4 (some .int) 4 [.ref m, vi o, vi p, vi i] σ (fun v σ' => v = some (vi ((j - 44 : Nat) : Int)) ∧ rV σ' m o (lowv C j) ∧ rO σ σ' m ∧ ∀ r, r ≠ o → r ≠ 105 → rE σ σ' m r) := by
  obtain ⟨hM0, hM1, hM2, hM3, hM4, hM5, hM6, hM7, hM8, hM9⟩ := hL
  refine q_start [some (.ref m), some (vi o), some (vi p), some (vi i)] (by decide) (Nat.le_of_ble_eq_true rfl) (fun q h => h) ?_
  refine q_aload_n d_Mo_lowOf_0 rfl ?_
  refine q_iload_n d_Mo_lowOf_1 rfl ?_
  refine q_aload_n d_Mo_lowOf_2 rfl ?_
  refine q_iload_n d_Mo_lowOf_3 rfl ?_
  refine q_iload_n d_Mo_lowOf_4 rfl ?_
  refine q_callV (As := [vi p, vi i]) (c_Mo_cell l K (p := p) (i := i) hp hi) w_cd_Mo_cell w_ini_Mo w_ml_Mo_115 w_im_Mo_cell w_se_Mo_cell (by assumption) rfl hd_Mo_cell rfl (Nat.le_of_ble_eq_true rfl) d_Mo_lowOf_5 (by decide) (by decide) (fun v σ9 hp => ?_)
  obtain ⟨rfl, hσ⟩ := hp
  rw [hσ]
  clear hσ σ9
  refine q_aload_n d_Mo_lowOf_8 rfl ?_
  refine q_gr (by assumption) pc_Mo 5 (by decide) w_fl_Mo_23 rfl (by rfl) d_Mo_lowOf_9 ?_
  refine q_bipush d_Mo_lowOf_12 (by decide) ?_
  refine q_iload_n d_Mo_lowOf_14 rfl ?_
  refine q_imul d_Mo_lowOf_15 ?_
  refine q_iload_n d_Mo_lowOf_16 rfl ?_
  refine q_iadd d_Mo_lowOf_17 ?_
  refine q_topi (show _ = ((8 * p + i : Nat) : Int) by omega) ?_
  refine q_ial (8 * p + i) (by assumption) (by omega) (by omega) (by omega) d_Mo_lowOf_18 ?_
  refine q_topi hj ?_
  refine q_callV (As := [vi o, vi ((140 + 8 * p + i : Nat) : Int), vi j]) (c_Mo_lower l K (o := o) (c := 140 + 8 * p + i) (j := j) (u := u) ⟨hM0, hM1, hM2, hM3, hM4, hM5, hM6, hM7, hM8, hM9⟩ ho (by omega) ho105 (by omega) hC hCb hju hu) w_cd_Mo_lower w_ini_Mo w_ml_Mo_111 w_im_Mo_lower w_se_Mo_lower (by assumption) rfl hd_Mo_lower rfl (Nat.le_of_ble_eq_true rfl) d_Mo_lowOf_19 (by decide) (by decide) (fun v σ1 hp => ?_)
  obtain ⟨rfl, k1, k2, k3⟩ := hp
  exact q_iret rfl (⟨rfl, k1, k2, k3⟩) d_Mo_lowOf_22
