/-! THE REFERENCE: refusals over the store, put -/
theorem mkp.rfl' {σ : q_S} {m : Nat} : mkp σ σ m := ⟨fun _ _ _ _ _ _ _ _ _ => rfl, fun _ _ => rE.rfl, fun _ _ => rfl⟩
theorem q_up3 (σ : q_S) (a k : Nat) (z w : Int) : q_up (q_up σ a k z) a k w = q_up σ a k w := by
  funext q j
  by_cases h : q = a ∧ j = k
  · rw [h.1, h.2, q_up_self, q_up_self]
  · rw [q_up_ne _ _ h, q_up_ne _ _ h, q_up_ne _ _ h]
theorem mkp.up {σ σ1 : q_S} {m : Nat} {z c : Int} (h : mkp (q_up σ m 0 z) σ1 m) : mkp (q_up σ m 0 c) (q_up σ1 m 0 c) m := by
  refine ⟨fun q a1 a2 a3 a4 a5 a6 a7 a8 => ?_, fun r hr => ⟨fun k hk => ?_, ?_, ?_⟩, fun j hj => ?_⟩
  · by_cases hq : q = m
    · subst hq
      funext k
      by_cases hk : k = 0
      · subst hk; rw [q_up_self, q_up_self]
      · rw [q_up_k _ _ hk, q_up_k _ _ hk, h.1 q a1 a2 a3 a4 a5 a6 a7 a8, q_up_k _ _ hk]
    · rw [q_up_a _ _ hq, q_up_a _ _ hq, h.1 q a1 a2 a3 a4 a5 a6 a7 a8, q_up_a _ _ hq]
  · have h1 := (h.2.1 r hr).1 k hk
    unfold mr at h1 ⊢
    rw [q_up_a _ _ (by omega)] at h1
    rw [q_up_a _ _ (by omega), q_up_a _ _ (by omega)]
    exact h1
  · have h1 := (h.2.1 r hr).2.1
    rw [q_up_a _ _ (by omega)] at h1
    rw [q_up_a _ _ (by omega), q_up_a _ _ (by omega)]
    exact h1
  · have h1 := (h.2.1 r hr).2.2
    rw [q_up_a _ _ (by omega)] at h1
    rw [q_up_a _ _ (by omega), q_up_a _ _ (by omega)]
    exact h1
  · have h1 := h.2.2 j hj
    rw [q_up_a _ _ (by omega)] at h1
    rw [q_up_a _ _ (by omega), q_up_a _ _ (by omega)]
    exact h1
set_option maxHeartbeats 4000000 in
set_option maxRecDepth 100000 in
theorem q_Mo_fails1 (l : Launch) (K : pw_K) {L : q_L} (σ : q_S) {m : Nat} {c : Int} (hL : mL L m) : q_C l K L y_Mo_fails b_Mo_fails 3 (some .boolean) 0 [.ref m, vi 1, vi c] σ (fun r σ' => r = some (vi 1) ∧ σ' = q_up σ m 0 c) := by
  have hLL := hL
  obtain ⟨hM0, hM1, hM2, hM3, hM4, hM5, hM6, hM7, hM8, hM9⟩ := hL
  refine q_start [some (.ref m), some (vi 1), some (vi c)] (by decide) (Nat.le_of_ble_eq_true rfl) (fun q h => h) ?_
  refine q_aload_n d_Mo_fails_0 rfl ?_
  refine q_iload_n d_Mo_fails_1 rfl ?_
  refine q_if_eq (tgt := 9) (by decide) d_Mo_fails_2 (by decide) (fun c2 => absurd c2 (by decide)) (fun c2 => ?_)
  refine q_iload_n d_Mo_fails_5 rfl ?_
  refine q_goto (tgt := 10) d_Mo_fails_6 (by decide) ?_
  refine q_pi hM0 pc_Mo 0 (by decide) w_fl_Mo_39 rfl rfl rfl rfl (by rfl) d_Mo_fails_10 ?_
  refine q_iload_n d_Mo_fails_13 rfl ?_
  exact q_zret rfl (by decide) (⟨rfl, rfl⟩) d_Mo_fails_14
set_option maxHeartbeats 4000000 in
set_option maxRecDepth 100000 in
theorem c_Mo_lacksF (l : Launch) (K : pw_K) {L : q_L} {σ : q_S} {m : Nat} {c a b : Int} (hL : mL L m) (hd : σ (m + 4) 0 = a) (hd2 : σ (m + 4) 1 = b) (ha : -1 ≤ a ∧ a ≤ 8) (hb : -1 ≤ b ∧ b ≤ 8) (hab : a < 0 ∨ b < 0) : q_C l K L y_Mo_lacks b_Mo_lacks 2 (some .boolean) 1 [.ref m, vi c] σ (fun r σ' => r = some (vi 1) ∧ σ' = q_up σ m 0 c) := by
  have hLL := hL
  obtain ⟨hM0, hM1, hM2, hM3, hM4, hM5, hM6, hM7, hM8, hM9⟩ := hL
  refine q_start [some (.ref m), some (vi c)] (by decide) (Nat.le_of_ble_eq_true rfl) (fun q h => h) ?_
  refine q_aload_n d_Mo_lacks_0 rfl ?_
  refine q_aload_n d_Mo_lacks_1 rfl ?_
  refine q_gr hM0 pc_Mo 4 (by decide) w_fl_Mo_20 rfl (by rfl) d_Mo_lacks_2 ?_
  refine q_iconst d_Mo_lacks_5 rfl ?_
  refine q_ial (0) (by assumption) (by omega) (by omega) (by omega) d_Mo_lacks_6 ?_
  refine q_topi hd ?_
  refine q_if_lt (tgt := 19) (by omega) d_Mo_lacks_7 (by decide) (fun c7 => ?_) (fun c7 => ?_)
  · refine q_iconst d_Mo_lacks_19 rfl ?_
    refine q_goto (tgt := 24) d_Mo_lacks_20 (by decide) ?_
    refine q_iload_n d_Mo_lacks_24 rfl ?_
    refine q_callV (As := [vi 1, vi c]) (q_Mo_fails1 l K _ hLL) w_cd_Mo_fails w_ini_Mo w_ml_Mo_146 w_im_Mo_fails w_se_Mo_fails hM0 rfl hd_Mo_fails rfl (Nat.le_of_ble_eq_true rfl) d_Mo_lacks_25 (by decide) (by decide) (fun v σ9 hp => ?_)
    obtain ⟨rfl, hσ⟩ := hp
    rw [hσ]
    clear hσ σ9
    exact q_zret rfl (by omega) (⟨rfl, rfl⟩) d_Mo_lacks_28
  · refine q_aload_n d_Mo_lacks_10 rfl ?_
    refine q_gr hM0 pc_Mo 4 (by decide) w_fl_Mo_20 rfl (by rfl) d_Mo_lacks_11 ?_
    refine q_iconst d_Mo_lacks_14 rfl ?_
    refine q_ial (1) (by assumption) (by omega) (by omega) (by omega) d_Mo_lacks_15 ?_
    refine q_topi hd2 ?_
    refine q_if_ge (tgt := 23) (by omega) d_Mo_lacks_16 (by decide) (fun c16 => absurd c16 (by omega)) (fun c16 => ?_)
    refine q_iconst d_Mo_lacks_19 rfl ?_
    refine q_goto (tgt := 24) d_Mo_lacks_20 (by decide) ?_
    refine q_iload_n d_Mo_lacks_24 rfl ?_
    refine q_callV (As := [vi 1, vi c]) (q_Mo_fails1 l K _ hLL) w_cd_Mo_fails w_ini_Mo w_ml_Mo_146 w_im_Mo_fails w_se_Mo_fails hM0 rfl hd_Mo_fails rfl (Nat.le_of_ble_eq_true rfl) d_Mo_lacks_25 (by decide) (by decide) (fun v σ9 hp => ?_)
    obtain ⟨rfl, hσ⟩ := hp
    rw [hσ]
    clear hσ σ9
    exact q_zret rfl (by omega) (⟨rfl, rfl⟩) d_Mo_lacks_28
set_option maxHeartbeats 4000000 in
set_option maxRecDepth 100000 in
theorem c_Mo_order_L (l : Launch) (K : pw_K) {L : q_L} {σ : q_S} {m : Nat} {a b : Int} (hL : mL L m) (hd : σ (m + 4) 0 = a) (hd2 : σ (m + 4) 1 = b) (ha : -1 ≤ a ∧ a ≤ 8) (hb : -1 ≤ b ∧ b ≤ 8) (hab : a < 0 ∨ b < 0) {zi zj : Int} : q_C l K L y_Mo_order b_Mo_order 6 (some .int) 7 [.ref m, vi zi, vi zj] σ (fun r σ' => r = some (vi 0) ∧ mkp (q_up σ m 0 1) σ' m) := by
  have hLL := hL
  obtain ⟨hM0, hM1, hM2, hM3, hM4, hM5, hM6, hM7, hM8, hM9⟩ := hL
  refine q_start [some (.ref m), some (vi zi), some (vi zj), none, none, none] (by decide) (Nat.le_of_ble_eq_true rfl) (fun q h => h) ?_
  refine q_aload_n d_Mo_order_0 rfl ?_
  refine q_iconst d_Mo_order_1 rfl ?_
  refine q_callV (As := [vi 1]) (c_Mo_lacksF l K hLL hd hd2 ha hb hab) w_cd_Mo_lacks w_ini_Mo w_ml_Mo_204 w_im_Mo_lacks w_se_Mo_lacks hM0 rfl hd_Mo_lacks rfl (Nat.le_of_ble_eq_true rfl) d_Mo_order_2 (by decide) (by decide) (fun v σ9 hp => ?_)
  obtain ⟨rfl, hσ⟩ := hp
  rw [hσ]
  clear hσ σ9
  refine q_if_eq (tgt := 10) (by decide) d_Mo_order_5 (by decide) (fun c5 => absurd c5 (by decide)) (fun c5 => ?_)
  refine q_iconst d_Mo_order_8 rfl ?_
  exact q_iret rfl (⟨rfl, mkp.rfl'⟩) d_Mo_order_9
set_option maxHeartbeats 4000000 in
set_option maxRecDepth 100000 in
theorem c_Mo_common_L (l : Launch) (K : pw_K) {L : q_L} {σ : q_S} {m : Nat} {a b : Int} (hL : mL L m) (hd : σ (m + 4) 0 = a) (hd2 : σ (m + 4) 1 = b) (ha : -1 ≤ a ∧ a ≤ 8) (hb : -1 ≤ b ∧ b ≤ 8) (hab : a < 0 ∨ b < 0) : q_C l K L y_Mo_common b_Mo_common 3 (some .int) 7 [.ref m] σ (fun r σ' => r = some (vi 0) ∧ mkp (q_up σ m 0 1) σ' m) := by
  have hLL := hL
  obtain ⟨hM0, hM1, hM2, hM3, hM4, hM5, hM6, hM7, hM8, hM9⟩ := hL
  refine q_start [some (.ref m), none, none] (by decide) (Nat.le_of_ble_eq_true rfl) (fun q h => h) ?_
  refine q_aload_n d_Mo_common_0 rfl ?_
  refine q_iconst d_Mo_common_1 rfl ?_
  refine q_callV (As := [vi 1]) (c_Mo_lacksF l K hLL hd hd2 ha hb hab) w_cd_Mo_lacks w_ini_Mo w_ml_Mo_204 w_im_Mo_lacks w_se_Mo_lacks hM0 rfl hd_Mo_lacks rfl (Nat.le_of_ble_eq_true rfl) d_Mo_common_2 (by decide) (by decide) (fun v σ9 hp => ?_)
  obtain ⟨rfl, hσ⟩ := hp
  rw [hσ]
  clear hσ σ9
  refine q_if_eq (tgt := 10) (by decide) d_Mo_common_5 (by decide) (fun c5 => absurd c5 (by decide)) (fun c5 => ?_)
  refine q_iconst d_Mo_common_8 rfl ?_
  exact q_iret rfl (⟨rfl, mkp.rfl'⟩) d_Mo_common_9
set_option maxHeartbeats 4000000 in
set_option maxRecDepth 100000 in
theorem c_Mo_signAt_L (l : Launch) (K : pw_K) {L : q_L} {σ : q_S} {m : Nat} {a b : Int} (hL : mL L m) (hd : σ (m + 4) 0 = a) (hd2 : σ (m + 4) 1 = b) (ha : -1 ≤ a ∧ a ≤ 8) (hb : -1 ≤ b ∧ b ≤ 8) (hab : a < 0 ∨ b < 0) {p : Nat} (hp : p < 2) {zi : Int} : q_C l K L y_Mo_signAt b_Mo_signAt 7 (some .int) 7 [.ref m, vi p, vi zi] σ (fun r σ' => r = some (vi 0) ∧ mkp (q_up σ m 0 2) σ' m) := by
  have hLL := hL
  obtain ⟨hM0, hM1, hM2, hM3, hM4, hM5, hM6, hM7, hM8, hM9⟩ := hL
  refine q_start [some (.ref m), some (vi p), some (vi zi), none, none, none, none] (by decide) (Nat.le_of_ble_eq_true rfl) (fun q h => h) ?_
  refine q_aload_n d_Mo_signAt_0 rfl ?_
  refine q_iload_n d_Mo_signAt_1 rfl ?_
  refine q_i2l (by omega) d_Mo_signAt_2 ?_
  refine q_lconst (z := 0) d_Mo_signAt_3 (by decide) ?_
  refine q_lconst (z := 1) d_Mo_signAt_4 (by decide) ?_
  refine q_callS (As := [vl (p : Int), vl 0, vl 1]) (q_Mo_in l K L σ (by omega) (by omega) (by omega)) w_cd_Mo_in w_ini_Mo w_ml_Mo_140 w_st_Mo_in hd_Mo_in rfl (Nat.le_of_ble_eq_true rfl) d_Mo_signAt_5 (by decide) (by decide) (fun v σ9 hp => ?_)
  obtain ⟨rfl, hσ⟩ := hp
  rw [hσ, if_pos (by omega)]
  clear hσ σ9
  refine q_if_ne (tgt := 15) (by decide) d_Mo_signAt_8 (by decide) (fun c8 => ?_) (fun c8 => absurd c8 (by decide))
  refine q_iconst d_Mo_signAt_15 rfl ?_
  refine q_iconst d_Mo_signAt_16 rfl ?_
  refine q_callV (As := [vi 0, vi 1]) (q_Mo_fails0 l K _ hLL) w_cd_Mo_fails w_ini_Mo w_ml_Mo_146 w_im_Mo_fails w_se_Mo_fails hM0 rfl hd_Mo_fails rfl (Nat.le_of_ble_eq_true rfl) d_Mo_signAt_17 (by decide) (by decide) (fun v σ9 hp => ?_)
  obtain ⟨rfl, hσ⟩ := hp
  rw [hσ]
  clear hσ σ9
  refine q_if_ne (tgt := 31) (by decide) d_Mo_signAt_20 (by decide) (fun c20 => absurd c20 (by decide)) (fun c20 => ?_)
  refine q_aload_n d_Mo_signAt_23 rfl ?_
  refine q_iconst d_Mo_signAt_24 rfl ?_
  refine q_callV (As := [vi 2]) (c_Mo_lacksF l K hLL (by rw [q_up_a _ _ (by omega)]; exact hd) (by rw [q_up_a _ _ (by omega)]; exact hd2) ha hb hab) w_cd_Mo_lacks w_ini_Mo w_ml_Mo_204 w_im_Mo_lacks w_se_Mo_lacks hM0 rfl hd_Mo_lacks rfl (Nat.le_of_ble_eq_true rfl) d_Mo_signAt_25 (by decide) (by decide) (fun v σ9 hp => ?_)
  obtain ⟨rfl, hσ⟩ := hp
  rw [hσ, q_up3]
  clear hσ σ9
  refine q_if_eq (tgt := 33) (by decide) d_Mo_signAt_28 (by decide) (fun c28 => absurd c28 (by decide)) (fun c28 => ?_)
  refine q_iconst d_Mo_signAt_31 rfl ?_
  exact q_iret rfl (⟨rfl, mkp.rfl'⟩) d_Mo_signAt_32
set_option maxHeartbeats 4000000 in
set_option maxRecDepth 100000 in
theorem c_Mo_multiple_X (l : Launch) (K : pw_K) {L : q_L} {σ : q_S} {m p n : Nat} {P : Nat → Int} (hL : mL L m) (hp : p < 2) (hd : σ (m + 4) p = (n : Int)) (hP : ∀ k, k ≤ n → rV σ m (9 * p + k) (P k)) (hz : ∀ c, n < c → P c = 0) (hPn : P n ≠ 0) (hn8 : n ≤ 8) (hb : ∀ k, (P k).natAbs ≤ 2147483648) {zi : Int} (hzi : -2147483648 ≤ zi ∧ zi < 2147483648) (hno : ∀ (M : Nat) (F : Nat → Nat → Int) (d : Nat → Nat), gch P n M F d → zi < 0 ∨ vlo F d M - vhi F d M ≤ zi) : q_C l K L y_Mo_multiple b_Mo_multiple 5 (some .int) 8 [.ref m, vi p, vi zi] σ (fun r σ' => r = some (vi 0) ∧ mkp (q_up σ m 0 3) σ' m) := by
  have hLL := hL
  obtain ⟨hM0, hM1, hM2, hM3, hM4, hM5, hM6, hM7, hM8, hM9⟩ := hL
  refine q_start [some (.ref m), some (vi p), some (vi zi), none, none] (by decide) (Nat.le_of_ble_eq_true rfl) (fun q h => h) ?_
  refine q_aload_n d_Mo_multiple_0 rfl ?_
  refine q_iload_n d_Mo_multiple_1 rfl ?_
  refine q_iconst d_Mo_multiple_2 rfl ?_
  refine q_callV (As := [vi p, vi 1]) (c_Mo_stops l K hLL hp hd hP hz hPn hn8 hb) w_cd_Mo_stops w_ini_Mo w_ml_Mo_153 w_im_Mo_stops w_se_Mo_stops hM0 rfl hd_Mo_stops rfl (Nat.le_of_ble_eq_true rfl) d_Mo_multiple_3 (by decide) (by decide) (fun v σ1 hp => ?_)
  obtain ⟨rfl, ⟨M, F, d, hg, k1, k2, k3⟩, k4⟩ := hp
  have hcn := hg.cnt
  have hnn := hno M F d hg
  refine q_if_ne (tgt := 42) (by decide) d_Mo_multiple_6 (by decide) (fun c6 => absurd c6 (by decide)) (fun c6 => ?_)
  refine q_aload_n d_Mo_multiple_9 rfl ?_
  refine q_iload_n d_Mo_multiple_10 rfl ?_
  refine q_i2l (by omega) d_Mo_multiple_11 ?_
  refine q_lconst (z := 0) d_Mo_multiple_12 (by decide) ?_
  refine q_aload_n d_Mo_multiple_13 rfl ?_
  refine q_gr hM0 pc_Mo 7 (by decide) w_fl_Mo_30 rfl (by rfl) d_Mo_multiple_14 ?_
  refine q_iload_n d_Mo_multiple_17 rfl ?_
  refine q_iconst d_Mo_multiple_18 rfl ?_
  refine q_iand (z := (p : Int)) (and1 hp) d_Mo_multiple_19 ?_
  refine q_ial (p) (by assumption) (by omega) (by omega) (by omega) d_Mo_multiple_20 ?_
  refine q_topi k2 ?_
  refine q_iconst d_Mo_multiple_21 rfl ?_
  refine q_isub d_Mo_multiple_22 ?_
  refine q_i2l (by omega) d_Mo_multiple_23 ?_
  refine q_callS (As := [vl zi, vl 0, vl (vlo F d M - vhi F d M - 1)]) (q_Mo_in l K L σ1 (by omega) (by omega) (by omega)) w_cd_Mo_in w_ini_Mo w_ml_Mo_140 w_st_Mo_in hd_Mo_in rfl (Nat.le_of_ble_eq_true rfl) d_Mo_multiple_24 (by decide) (by decide) (fun v σ9 hp => ?_)
  obtain ⟨rfl, hσ⟩ := hp
  rw [hσ, if_neg (by omega)]
  clear hσ σ9
  refine q_if_ne (tgt := 34) (by decide) d_Mo_multiple_27 (by decide) (fun c27 => absurd c27 (by decide)) (fun c27 => ?_)
  refine q_iconst d_Mo_multiple_30 rfl ?_
  refine q_goto (tgt := 35) d_Mo_multiple_31 (by decide) ?_
  refine q_iconst d_Mo_multiple_35 rfl ?_
  refine q_callV (As := [vi 1, vi 3]) (q_Mo_fails1 l K _ hLL) w_cd_Mo_fails w_ini_Mo w_ml_Mo_146 w_im_Mo_fails w_se_Mo_fails hM0 rfl hd_Mo_fails rfl (Nat.le_of_ble_eq_true rfl) d_Mo_multiple_36 (by decide) (by decide) (fun v σ9 hp => ?_)
  obtain ⟨rfl, hσ⟩ := hp
  rw [hσ]
  clear hσ σ9
  refine q_if_eq (tgt := 44) (by decide) d_Mo_multiple_39 (by decide) (fun c39 => absurd c39 (by decide)) (fun c39 => ?_)
  refine q_iconst d_Mo_multiple_42 rfl ?_
  exact q_iret rfl (⟨rfl, k4.mk.up⟩) d_Mo_multiple_43
set_option maxHeartbeats 4000000 in
set_option maxRecDepth 100000 in
theorem c_Mo_side_X (l : Launch) (K : pw_K) {L : q_L} {σ : q_S} {m p n : Nat} {P : Nat → Int} (hL : mL L m) (hp : p < 2) (hd : σ (m + 4) p = (n : Int)) (hP : ∀ k, k ≤ n → rV σ m (9 * p + k) (P k)) (hz : ∀ c, n < c → P c = 0) (hPn : P n ≠ 0) (hn8 : n ≤ 8) (hb : ∀ k, (P k).natAbs ≤ 2147483648) {zi : Int} (hzi : -2147483648 ≤ zi ∧ zi < 2147483648) (hno : ∀ (M : Nat) (F : Nat → Nat → Int) (d : Nat → Nat), gch P n M F d → zi < 0 ∨ vlo F d M - vhi F d M ≤ zi) {u : Int} {ee : Nat} (hee : ee ≤ 62) : q_C l K L y_Mo_side b_Mo_side 6 (some .int) 8 [.ref m, vi p, vi zi, vl u, vi ee] σ (fun r σ' => r = some (vi 0) ∧ mkp (q_up σ m 0 3) σ' m) := by
  have hLL := hL
  obtain ⟨hM0, hM1, hM2, hM3, hM4, hM5, hM6, hM7, hM8, hM9⟩ := hL
  refine q_start [some (.ref m), some (vi p), some (vi zi), some (vl u), none, some (vi ee)] (by decide) (Nat.le_of_ble_eq_true rfl) (fun q h => h) ?_
  refine q_aload_n d_Mo_side_0 rfl ?_
  refine q_iload_n d_Mo_side_1 rfl ?_
  refine q_iload d_Mo_side_2 rfl ?_
  refine q_i2l (by omega) d_Mo_side_4 ?_
  refine q_lconst (z := 0) d_Mo_side_5 (by decide) ?_
  refine q_ldc2 (z := 62) w_kl_Mo_157 (by decide) d_Mo_side_6 ?_
  refine q_callS (As := [vl (ee : Int), vl 0, vl 62]) (q_Mo_in l K L σ (by omega) (by omega) (by omega)) w_cd_Mo_in w_ini_Mo w_ml_Mo_140 w_st_Mo_in hd_Mo_in rfl (Nat.le_of_ble_eq_true rfl) d_Mo_side_9 (by decide) (by decide) (fun v σ9 hp => ?_)
  obtain ⟨rfl, hσ⟩ := hp
  rw [hσ, if_pos (by omega)]
  clear hσ σ9
  refine q_callV (As := [vi p, vi 1]) (c_Mo_stops l K hLL hp hd hP hz hPn hn8 hb) w_cd_Mo_stops w_ini_Mo w_ml_Mo_153 w_im_Mo_stops w_se_Mo_stops hM0 rfl hd_Mo_stops rfl (Nat.le_of_ble_eq_true rfl) d_Mo_side_12 (by decide) (by decide) (fun v σ1 hp => ?_)
  obtain ⟨rfl, ⟨M, F, d, hg, k1, k2, k3⟩, k4⟩ := hp
  have hcn := hg.cnt
  have hnn := hno M F d hg
  refine q_if_ne (tgt := 51) (by decide) d_Mo_side_15 (by decide) (fun c15 => absurd c15 (by decide)) (fun c15 => ?_)
  refine q_aload_n d_Mo_side_18 rfl ?_
  refine q_iload_n d_Mo_side_19 rfl ?_
  refine q_i2l (by omega) d_Mo_side_20 ?_
  refine q_lconst (z := 0) d_Mo_side_21 (by decide) ?_
  refine q_aload_n d_Mo_side_22 rfl ?_
  refine q_gr hM0 pc_Mo 7 (by decide) w_fl_Mo_30 rfl (by rfl) d_Mo_side_23 ?_
  refine q_iload_n d_Mo_side_26 rfl ?_
  refine q_iconst d_Mo_side_27 rfl ?_
  refine q_iand (z := (p : Int)) (and1 hp) d_Mo_side_28 ?_
  refine q_ial (p) (by assumption) (by omega) (by omega) (by omega) d_Mo_side_29 ?_
  refine q_topi k2 ?_
  refine q_iconst d_Mo_side_30 rfl ?_
  refine q_isub d_Mo_side_31 ?_
  refine q_i2l (by omega) d_Mo_side_32 ?_
  refine q_callS (As := [vl zi, vl 0, vl (vlo F d M - vhi F d M - 1)]) (q_Mo_in l K L σ1 (by omega) (by omega) (by omega)) w_cd_Mo_in w_ini_Mo w_ml_Mo_140 w_st_Mo_in hd_Mo_in rfl (Nat.le_of_ble_eq_true rfl) d_Mo_side_33 (by decide) (by decide) (fun v σ9 hp => ?_)
  obtain ⟨rfl, hσ⟩ := hp
  rw [hσ, if_neg (by omega)]
  clear hσ σ9
  refine q_if_ne (tgt := 43) (by decide) d_Mo_side_36 (by decide) (fun c36 => absurd c36 (by decide)) (fun c36 => ?_)
  refine q_iconst d_Mo_side_39 rfl ?_
  refine q_goto (tgt := 44) d_Mo_side_40 (by decide) ?_
  refine q_iconst d_Mo_side_44 rfl ?_
  refine q_callV (As := [vi 1, vi 3]) (q_Mo_fails1 l K _ hLL) w_cd_Mo_fails w_ini_Mo w_ml_Mo_146 w_im_Mo_fails w_se_Mo_fails hM0 rfl hd_Mo_fails rfl (Nat.le_of_ble_eq_true rfl) d_Mo_side_45 (by decide) (by decide) (fun v σ9 hp => ?_)
  obtain ⟨rfl, hσ⟩ := hp
  rw [hσ]
  clear hσ σ9
  refine q_if_eq (tgt := 53) (by decide) d_Mo_side_48 (by decide) (fun c48 => absurd c48 (by decide)) (fun c48 => ?_)
  refine q_iconst d_Mo_side_51 rfl ?_
  exact q_iret rfl (⟨rfl, k4.mk.up⟩) d_Mo_side_52
set_option maxHeartbeats 4000000 in
set_option maxRecDepth 100000 in
theorem c_Mo_floor2_X (l : Launch) (K : pw_K) {L : q_L} {σ : q_S} {m p n : Nat} {P : Nat → Int} (hL : mL L m) (hp : p < 2) (hd : σ (m + 4) p = (n : Int)) (hP : ∀ k, k ≤ n → rV σ m (9 * p + k) (P k)) (hz : ∀ c, n < c → P c = 0) (hPn : P n ≠ 0) (hn8 : n ≤ 8) (hb : ∀ k, (P k).natAbs ≤ 2147483648) {zi : Int} (hzi : -2147483648 ≤ zi ∧ zi < 2147483648) (hno : ∀ (M : Nat) (F : Nat → Nat → Int) (d : Nat → Nat), gch P n M F d → zi < 0 ∨ vlo F d M - vhi F d M ≤ zi) {n0 : Nat} (hn0 : n0 ≤ 300) : q_C l K L y_Mo_floor b_Mo_floor 7 (some .int) 8 [.ref m, vi p, vi zi, vi 0, vi n0] σ (fun r σ' => r = some (vi 0) ∧ mkp (q_up σ m 0 3) σ' m) := by
  have hLL := hL
  obtain ⟨hM0, hM1, hM2, hM3, hM4, hM5, hM6, hM7, hM8, hM9⟩ := hL
  refine q_start [some (.ref m), some (vi p), some (vi zi), some (vi 0), some (vi n0), none, none] (by decide) (Nat.le_of_ble_eq_true rfl) (fun q h => h) ?_
  refine q_aload_n d_Mo_floor_0 rfl ?_
  refine q_iload_n d_Mo_floor_1 rfl ?_
  refine q_iload d_Mo_floor_2 rfl ?_
  refine q_i2l (by omega) d_Mo_floor_4 ?_
  refine q_lconst (z := 0) d_Mo_floor_5 (by decide) ?_
  refine q_iload_n d_Mo_floor_6 rfl ?_
  refine q_if_eq (tgt := 16) (by decide) d_Mo_floor_7 (by decide) (fun c7 => ?_) (fun c7 => absurd c7 (by decide))
  refine q_ldc2 (z := 300) w_kl_Mo_180 (by decide) d_Mo_floor_16 ?_
  refine q_callS (As := [vl (n0 : Int), vl 0, vl 300]) (q_Mo_in l K L σ (by omega) (by omega) (by omega)) w_cd_Mo_in w_ini_Mo w_ml_Mo_140 w_st_Mo_in hd_Mo_in rfl (Nat.le_of_ble_eq_true rfl) d_Mo_floor_19 (by decide) (by decide) (fun v σ9 hp => ?_)
  obtain ⟨rfl, hσ⟩ := hp
  rw [hσ, if_pos (by omega)]
  clear hσ σ9
  refine q_callV (As := [vi p, vi 1]) (c_Mo_stops l K hLL hp hd hP hz hPn hn8 hb) w_cd_Mo_stops w_ini_Mo w_ml_Mo_153 w_im_Mo_stops w_se_Mo_stops hM0 rfl hd_Mo_stops rfl (Nat.le_of_ble_eq_true rfl) d_Mo_floor_22 (by decide) (by decide) (fun v σ1 hp => ?_)
  obtain ⟨rfl, ⟨M, F, d, hg, k1, k2, k3⟩, k4⟩ := hp
  have hcn := hg.cnt
  have hnn := hno M F d hg
  refine q_if_ne (tgt := 61) (by decide) d_Mo_floor_25 (by decide) (fun c25 => absurd c25 (by decide)) (fun c25 => ?_)
  refine q_aload_n d_Mo_floor_28 rfl ?_
  refine q_iload_n d_Mo_floor_29 rfl ?_
  refine q_i2l (by omega) d_Mo_floor_30 ?_
  refine q_lconst (z := 0) d_Mo_floor_31 (by decide) ?_
  refine q_aload_n d_Mo_floor_32 rfl ?_
  refine q_gr hM0 pc_Mo 7 (by decide) w_fl_Mo_30 rfl (by rfl) d_Mo_floor_33 ?_
  refine q_iload_n d_Mo_floor_36 rfl ?_
  refine q_iconst d_Mo_floor_37 rfl ?_
  refine q_iand (z := (p : Int)) (and1 hp) d_Mo_floor_38 ?_
  refine q_ial (p) (by assumption) (by omega) (by omega) (by omega) d_Mo_floor_39 ?_
  refine q_topi k2 ?_
  refine q_iconst d_Mo_floor_40 rfl ?_
  refine q_isub d_Mo_floor_41 ?_
  refine q_i2l (by omega) d_Mo_floor_42 ?_
  refine q_callS (As := [vl zi, vl 0, vl (vlo F d M - vhi F d M - 1)]) (q_Mo_in l K L σ1 (by omega) (by omega) (by omega)) w_cd_Mo_in w_ini_Mo w_ml_Mo_140 w_st_Mo_in hd_Mo_in rfl (Nat.le_of_ble_eq_true rfl) d_Mo_floor_43 (by decide) (by decide) (fun v σ9 hp => ?_)
  obtain ⟨rfl, hσ⟩ := hp
  rw [hσ, if_neg (by omega)]
  clear hσ σ9
  refine q_if_ne (tgt := 53) (by decide) d_Mo_floor_46 (by decide) (fun c46 => absurd c46 (by decide)) (fun c46 => ?_)
  refine q_iconst d_Mo_floor_49 rfl ?_
  refine q_goto (tgt := 54) d_Mo_floor_50 (by decide) ?_
  refine q_iconst d_Mo_floor_54 rfl ?_
  refine q_callV (As := [vi 1, vi 3]) (q_Mo_fails1 l K _ hLL) w_cd_Mo_fails w_ini_Mo w_ml_Mo_146 w_im_Mo_fails w_se_Mo_fails hM0 rfl hd_Mo_fails rfl (Nat.le_of_ble_eq_true rfl) d_Mo_floor_55 (by decide) (by decide) (fun v σ9 hp => ?_)
  obtain ⟨rfl, hσ⟩ := hp
  rw [hσ]
  clear hσ σ9
  refine q_if_eq (tgt := 63) (by decide) d_Mo_floor_58 (by decide) (fun c58 => absurd c58 (by decide)) (fun c58 => ?_)
  refine q_iconst d_Mo_floor_61 rfl ?_
  exact q_iret rfl (⟨rfl, k4.mk.up⟩) d_Mo_floor_62
set_option maxHeartbeats 4000000 in
set_option maxRecDepth 100000 in
theorem c_Mo_floorT_X (l : Launch) (K : pw_K) {L : q_L} {σ : q_S} {m p n : Nat} {P : Nat → Int} (hL : mL L m) (hp : p < 2) (hd : σ (m + 4) p = (n : Int)) (hP : ∀ k, k ≤ n → rV σ m (9 * p + k) (P k)) (hz : ∀ c, n < c → P c = 0) (hPn : P n ≠ 0) (hn8 : n ≤ 8) (hb : ∀ k, (P k).natAbs ≤ 2147483648) {zi : Int} (hzi : -2147483648 ≤ zi ∧ zi < 2147483648) (hno : ∀ (M : Nat) (F : Nat → Nat → Int) (d : Nat → Nat), gch P n M F d → zi < 0 ∨ vlo F d M - vhi F d M ≤ zi) {n0 : Nat} (hn0 : n0 ≤ 90) : q_C l K L y_Mo_floor b_Mo_floor 7 (some .int) 8 [.ref m, vi p, vi zi, vi 1, vi n0] σ (fun r σ' => r = some (vi 0) ∧ mkp (q_up σ m 0 3) σ' m) := by
  have hLL := hL
  obtain ⟨hM0, hM1, hM2, hM3, hM4, hM5, hM6, hM7, hM8, hM9⟩ := hL
  refine q_start [some (.ref m), some (vi p), some (vi zi), some (vi 1), some (vi n0), none, none] (by decide) (Nat.le_of_ble_eq_true rfl) (fun q h => h) ?_
  refine q_aload_n d_Mo_floor_0 rfl ?_
  refine q_iload_n d_Mo_floor_1 rfl ?_
  refine q_iload d_Mo_floor_2 rfl ?_
  refine q_i2l (by omega) d_Mo_floor_4 ?_
  refine q_lconst (z := 0) d_Mo_floor_5 (by decide) ?_
  refine q_iload_n d_Mo_floor_6 rfl ?_
  refine q_if_eq (tgt := 16) (by decide) d_Mo_floor_7 (by decide) (fun c7 => absurd c7 (by decide)) (fun c7 => ?_)
  refine q_ldc2 (z := 90) w_kl_Mo_178 (by decide) d_Mo_floor_10 ?_
  refine q_goto (tgt := 19) d_Mo_floor_13 (by decide) ?_
  refine q_callS (As := [vl (n0 : Int), vl 0, vl 90]) (q_Mo_in l K L σ (by omega) (by omega) (by omega)) w_cd_Mo_in w_ini_Mo w_ml_Mo_140 w_st_Mo_in hd_Mo_in rfl (Nat.le_of_ble_eq_true rfl) d_Mo_floor_19 (by decide) (by decide) (fun v σ9 hp => ?_)
  obtain ⟨rfl, hσ⟩ := hp
  rw [hσ, if_pos (by omega)]
  clear hσ σ9
  refine q_callV (As := [vi p, vi 1]) (c_Mo_stops l K hLL hp hd hP hz hPn hn8 hb) w_cd_Mo_stops w_ini_Mo w_ml_Mo_153 w_im_Mo_stops w_se_Mo_stops hM0 rfl hd_Mo_stops rfl (Nat.le_of_ble_eq_true rfl) d_Mo_floor_22 (by decide) (by decide) (fun v σ1 hp => ?_)
  obtain ⟨rfl, ⟨M, F, d, hg, k1, k2, k3⟩, k4⟩ := hp
  have hcn := hg.cnt
  have hnn := hno M F d hg
  refine q_if_ne (tgt := 61) (by decide) d_Mo_floor_25 (by decide) (fun c25 => absurd c25 (by decide)) (fun c25 => ?_)
  refine q_aload_n d_Mo_floor_28 rfl ?_
  refine q_iload_n d_Mo_floor_29 rfl ?_
  refine q_i2l (by omega) d_Mo_floor_30 ?_
  refine q_lconst (z := 0) d_Mo_floor_31 (by decide) ?_
  refine q_aload_n d_Mo_floor_32 rfl ?_
  refine q_gr hM0 pc_Mo 7 (by decide) w_fl_Mo_30 rfl (by rfl) d_Mo_floor_33 ?_
  refine q_iload_n d_Mo_floor_36 rfl ?_
  refine q_iconst d_Mo_floor_37 rfl ?_
  refine q_iand (z := (p : Int)) (and1 hp) d_Mo_floor_38 ?_
  refine q_ial (p) (by assumption) (by omega) (by omega) (by omega) d_Mo_floor_39 ?_
  refine q_topi k2 ?_
  refine q_iconst d_Mo_floor_40 rfl ?_
  refine q_isub d_Mo_floor_41 ?_
  refine q_i2l (by omega) d_Mo_floor_42 ?_
  refine q_callS (As := [vl zi, vl 0, vl (vlo F d M - vhi F d M - 1)]) (q_Mo_in l K L σ1 (by omega) (by omega) (by omega)) w_cd_Mo_in w_ini_Mo w_ml_Mo_140 w_st_Mo_in hd_Mo_in rfl (Nat.le_of_ble_eq_true rfl) d_Mo_floor_43 (by decide) (by decide) (fun v σ9 hp => ?_)
  obtain ⟨rfl, hσ⟩ := hp
  rw [hσ, if_neg (by omega)]
  clear hσ σ9
  refine q_if_ne (tgt := 53) (by decide) d_Mo_floor_46 (by decide) (fun c46 => absurd c46 (by decide)) (fun c46 => ?_)
  refine q_iconst d_Mo_floor_49 rfl ?_
  refine q_goto (tgt := 54) d_Mo_floor_50 (by decide) ?_
  refine q_iconst d_Mo_floor_54 rfl ?_
  refine q_callV (As := [vi 1, vi 3]) (q_Mo_fails1 l K _ hLL) w_cd_Mo_fails w_ini_Mo w_ml_Mo_146 w_im_Mo_fails w_se_Mo_fails hM0 rfl hd_Mo_fails rfl (Nat.le_of_ble_eq_true rfl) d_Mo_floor_55 (by decide) (by decide) (fun v σ9 hp => ?_)
  obtain ⟨rfl, hσ⟩ := hp
  rw [hσ]
  clear hσ σ9
  refine q_if_eq (tgt := 63) (by decide) d_Mo_floor_58 (by decide) (fun c58 => absurd c58 (by decide)) (fun c58 => ?_)
  refine q_iconst d_Mo_floor_61 rfl ?_
  exact q_iret rfl (⟨rfl, k4.mk.up⟩) d_Mo_floor_62
set_option maxHeartbeats 4000000 in
set_option maxRecDepth 100000 in
theorem c_Mo_order_X (l : Launch) (K : pw_K) {L : q_L} {σ : q_S} {m n n2 : Nat} {P P2 : Nat → Int} (hL : mL L m) (hd : σ (m + 4) 0 = (n : Int)) (hP : ∀ k, k ≤ n → rV σ m (9 * 0 + k) (P k)) (hz : ∀ c, n < c → P c = 0) (hPn : P n ≠ 0) (hn8 : n ≤ 8) (hb : ∀ k, (P k).natAbs ≤ 2147483648) (hd2 : σ (m + 4) 1 = (n2 : Int)) (hP2 : ∀ k, k ≤ n2 → rV σ m (9 * 1 + k) (P2 k)) (hz2 : ∀ c, n2 < c → P2 c = 0) (hPn2 : P2 n2 ≠ 0) (hn82 : n2 ≤ 8) (hb2 : ∀ k, (P2 k).natAbs ≤ 2147483648) {zi zj : Int} (hzi : -2147483648 ≤ zi ∧ zi < 2147483648) (hzj : -2147483648 ≤ zj ∧ zj < 2147483648) (hno : ∀ (M : Nat) (F : Nat → Nat → Int) (d : Nat → Nat) (M2 : Nat) (F2 : Nat → Nat → Int) (d2 : Nat → Nat), gch P n M F d → gch P2 n2 M2 F2 d2 → (zi < 0 ∨ vlo F d M - vhi F d M ≤ zi) ∨ (zj < 0 ∨ vlo F2 d2 M2 - vhi F2 d2 M2 ≤ zj)) : q_C l K L y_Mo_order b_Mo_order 6 (some .int) 7 [.ref m, vi zi, vi zj] σ (fun r σ' => r = some (vi 0) ∧ mkp (q_up σ m 0 2) σ' m) := by
  have hLL := hL
  obtain ⟨hM0, hM1, hM2, hM3, hM4, hM5, hM6, hM7, hM8, hM9⟩ := hL
  refine q_start [some (.ref m), some (vi zi), some (vi zj), none, none, none] (by decide) (Nat.le_of_ble_eq_true rfl) (fun q h => h) ?_
  refine q_aload_n d_Mo_order_0 rfl ?_
  refine q_iconst d_Mo_order_1 rfl ?_
  refine q_callV (As := [vi 1]) (c_Mo_lacks1 l K hLL hd hd2 hn8 hn82) w_cd_Mo_lacks w_ini_Mo w_ml_Mo_204 w_im_Mo_lacks w_se_Mo_lacks hM0 rfl hd_Mo_lacks rfl (Nat.le_of_ble_eq_true rfl) d_Mo_order_2 (by decide) (by decide) (fun v σ9 hp => ?_)
  obtain ⟨rfl, hσ⟩ := hp
  rw [hσ]
  clear hσ σ9
  refine q_if_eq (tgt := 10) (by decide) d_Mo_order_5 (by decide) (fun c5 => ?_) (fun c5 => absurd c5 (by decide))
  refine q_aload_n d_Mo_order_10 rfl ?_
  refine q_iconst d_Mo_order_11 rfl ?_
  refine q_callV (As := [vi 0]) (c_Mo_isolates l K (p := 0) (n := n) (P := P) hLL (by omega) (by rw [q_up_a _ _ (by omega)]; exact hd) (fun k hk => (hP k hk).mv (up0 _)) hz hPn hn8 hb) w_cd_Mo_isolates w_ini_Mo w_ml_Mo_150 w_im_Mo_isolates w_se_Mo_isolates hM0 rfl hd_Mo_isolates rfl (Nat.le_of_ble_eq_true rfl) d_Mo_order_12 (by decide) (by decide) (fun v σ1 hp => ?_)
  obtain ⟨rfl, k0, k4⟩ := hp
  have kd2 : σ1 (m + 4) 1 = (n2 : Int) := by rw [k4.2.2.1 1 (by omega) (by omega), q_up_a _ _ (by omega)]; exact hd2
  have kp2 : ∀ k, k ≤ n2 → rV σ1 m (9 * 1 + k) (P2 k) := fun k hk => ((hP2 k hk).mv (up0 _)).mv (k4.2.1 _ (by omega) (by omega) (by omega) (by omega))
  refine q_aload_n d_Mo_order_15 rfl ?_
  refine q_iconst d_Mo_order_16 rfl ?_
  refine q_callV (As := [vi 1]) (c_Mo_isolates l K (p := 1) (n := n2) (P := P2) hLL (by omega) kd2 kp2 hz2 hPn2 hn82 hb2) w_cd_Mo_isolates w_ini_Mo w_ml_Mo_150 w_im_Mo_isolates w_se_Mo_isolates hM0 rfl hd_Mo_isolates rfl (Nat.le_of_ble_eq_true rfl) d_Mo_order_17 (by decide) (by decide) (fun v σ2 hp => ?_)
  obtain ⟨rfl, ⟨M2, F2, d2, hg2, l1', l2, l3⟩, l4⟩ := hp
  obtain ⟨M, F, d, hg, k1, k2, k3⟩ := k0.mv (by omega) (by omega) (by omega) l4
  have hcn := hg.cnt
  have hcn2 := hg2.cnt
  have hnn := hno M F d M2 F2 d2 hg hg2
  have hmk := k4.mk.trans l4.mk
  refine q_aload_n d_Mo_order_20 rfl ?_
  refine q_iload_n d_Mo_order_21 rfl ?_
  refine q_i2l (by omega) d_Mo_order_22 ?_
  refine q_lconst (z := 0) d_Mo_order_23 (by decide) ?_
  refine q_aload_n d_Mo_order_24 rfl ?_
  refine q_gr hM0 pc_Mo 7 (by decide) w_fl_Mo_30 rfl (by rfl) d_Mo_order_25 ?_
  refine q_iconst d_Mo_order_28 rfl ?_
  refine q_ial (0) (by assumption) (by omega) (by omega) (by omega) d_Mo_order_29 ?_
  refine q_topi k2 ?_
  refine q_iconst d_Mo_order_30 rfl ?_
  refine q_isub d_Mo_order_31 ?_
  refine q_i2l (by omega) d_Mo_order_32 ?_
  by_cases hA : 0 ≤ zi ∧ zi ≤ vlo F d M - vhi F d M - 1
  · refine q_callS (As := [vl zi, vl 0, vl (vlo F d M - vhi F d M - 1)]) (q_Mo_in l K L σ2 (by omega) (by omega) (by omega)) w_cd_Mo_in w_ini_Mo w_ml_Mo_140 w_st_Mo_in hd_Mo_in rfl (Nat.le_of_ble_eq_true rfl) d_Mo_order_33 (by decide) (by decide) (fun v σ9 hp => ?_)
    obtain ⟨rfl, hσ⟩ := hp
    rw [hσ, if_pos hA]
    clear hσ σ9
    refine q_if_eq (tgt := 57) (by decide) d_Mo_order_36 (by decide) (fun c36 => absurd c36 (by decide)) (fun c36 => ?_)
    refine q_iload_n d_Mo_order_39 rfl ?_
    refine q_i2l (by omega) d_Mo_order_40 ?_
    refine q_lconst (z := 0) d_Mo_order_41 (by decide) ?_
    refine q_aload_n d_Mo_order_42 rfl ?_
    refine q_gr hM0 pc_Mo 7 (by decide) w_fl_Mo_30 rfl (by rfl) d_Mo_order_43 ?_
    refine q_iconst d_Mo_order_46 rfl ?_
    refine q_ial (1) (by assumption) (by omega) (by omega) (by omega) d_Mo_order_47 ?_
    refine q_topi l2 ?_
    refine q_iconst d_Mo_order_48 rfl ?_
    refine q_isub d_Mo_order_49 ?_
    refine q_i2l (by omega) d_Mo_order_50 ?_
    refine q_callS (As := [vl zj, vl 0, vl (vlo F2 d2 M2 - vhi F2 d2 M2 - 1)]) (q_Mo_in l K L σ2 (by omega) (by omega) (by omega)) w_cd_Mo_in w_ini_Mo w_ml_Mo_140 w_st_Mo_in hd_Mo_in rfl (Nat.le_of_ble_eq_true rfl) d_Mo_order_51 (by decide) (by decide) (fun v σ9 hp => ?_)
    obtain ⟨rfl, hσ⟩ := hp
    rw [hσ, if_neg (by omega)]
    clear hσ σ9
    refine q_if_ne (tgt := 61) (by decide) d_Mo_order_54 (by decide) (fun c54 => absurd c54 (by decide)) (fun c54 => ?_)
    refine q_iconst d_Mo_order_57 rfl ?_
    refine q_goto (tgt := 62) d_Mo_order_58 (by decide) ?_
    refine q_iconst d_Mo_order_62 rfl ?_
    refine q_callV (As := [vi 1, vi 2]) (q_Mo_fails1 l K _ hLL) w_cd_Mo_fails w_ini_Mo w_ml_Mo_146 w_im_Mo_fails w_se_Mo_fails hM0 rfl hd_Mo_fails rfl (Nat.le_of_ble_eq_true rfl) d_Mo_order_63 (by decide) (by decide) (fun v σ9 hp => ?_)
    obtain ⟨rfl, hσ⟩ := hp
    rw [hσ]
    clear hσ σ9
    refine q_if_eq (tgt := 71) (by decide) d_Mo_order_66 (by decide) (fun c66 => absurd c66 (by decide)) (fun c66 => ?_)
    refine q_iconst d_Mo_order_69 rfl ?_
    exact q_iret rfl (⟨rfl, hmk.up⟩) d_Mo_order_70
  · refine q_callS (As := [vl zi, vl 0, vl (vlo F d M - vhi F d M - 1)]) (q_Mo_in l K L σ2 (by omega) (by omega) (by omega)) w_cd_Mo_in w_ini_Mo w_ml_Mo_140 w_st_Mo_in hd_Mo_in rfl (Nat.le_of_ble_eq_true rfl) d_Mo_order_33 (by decide) (by decide) (fun v σ9 hp => ?_)
    obtain ⟨rfl, hσ⟩ := hp
    rw [hσ, if_neg (hA)]
    clear hσ σ9
    refine q_if_eq (tgt := 57) (by decide) d_Mo_order_36 (by decide) (fun c36 => ?_) (fun c36 => absurd c36 (by decide))
    refine q_iconst d_Mo_order_57 rfl ?_
    refine q_goto (tgt := 62) d_Mo_order_58 (by decide) ?_
    refine q_iconst d_Mo_order_62 rfl ?_
    refine q_callV (As := [vi 1, vi 2]) (q_Mo_fails1 l K _ hLL) w_cd_Mo_fails w_ini_Mo w_ml_Mo_146 w_im_Mo_fails w_se_Mo_fails hM0 rfl hd_Mo_fails rfl (Nat.le_of_ble_eq_true rfl) d_Mo_order_63 (by decide) (by decide) (fun v σ9 hp => ?_)
    obtain ⟨rfl, hσ⟩ := hp
    rw [hσ]
    clear hσ σ9
    refine q_if_eq (tgt := 71) (by decide) d_Mo_order_66 (by decide) (fun c66 => absurd c66 (by decide)) (fun c66 => ?_)
    refine q_iconst d_Mo_order_69 rfl ?_
    exact q_iret rfl (⟨rfl, hmk.up⟩) d_Mo_order_70
set_option maxHeartbeats 4000000 in
set_option maxRecDepth 100000 in
theorem c_Mo_signAt_X (l : Launch) (K : pw_K) {L : q_L} {σ : q_S} {m p o n n2 : Nat} {P P2 : Nat → Int} (hL : mL L m) (hp : p < 2) (ho : o = 1 - p) (hd : σ (m + 4) p = (n : Int)) (hP : ∀ k, k ≤ n → rV σ m (9 * p + k) (P k)) (hz : ∀ c, n < c → P c = 0) (hPn : P n ≠ 0) (hn8 : n ≤ 8) (hb : ∀ k, (P k).natAbs ≤ 2147483648) (hd2 : σ (m + 4) o = (n2 : Int)) (hP2 : ∀ k, k ≤ n2 → rV σ m (9 * o + k) (P2 k)) (hz2 : ∀ c, n2 < c → P2 c = 0) (hPn2 : P2 n2 ≠ 0) (hn82 : n2 ≤ 8) (hb2 : ∀ k, (P2 k).natAbs ≤ 2147483648) {zi : Int} (hzi : -2147483648 ≤ zi ∧ zi < 2147483648) (hno : ∀ (M : Nat) (F : Nat → Nat → Int) (d : Nat → Nat), gch P n M F d → zi < 0 ∨ vlo F d M - vhi F d M ≤ zi) : q_C l K L y_Mo_signAt b_Mo_signAt 7 (some .int) 7 [.ref m, vi p, vi zi] σ (fun r σ' => r = some (vi 0) ∧ mkp (q_up σ m 0 3) σ' m) := by
  have hLL := hL
  obtain ⟨hM0, hM1, hM2, hM3, hM4, hM5, hM6, hM7, hM8, hM9⟩ := hL
  have dd0 : ∃ a : Nat, σ (m + 4) 0 = (a : Int) ∧ a ≤ 8 := by
    rcases (show p = 0 ∨ o = 0 by omega) with h | h
    · exact ⟨n, by rw [← hd, h], hn8⟩
    · exact ⟨n2, by rw [← hd2, h], hn82⟩
  have dd1 : ∃ a : Nat, σ (m + 4) 1 = (a : Int) ∧ a ≤ 8 := by
    rcases (show p = 1 ∨ o = 1 by omega) with h | h
    · exact ⟨n, by rw [← hd, h], hn8⟩
    · exact ⟨n2, by rw [← hd2, h], hn82⟩
  obtain ⟨a0, da0, ha0⟩ := dd0
  obtain ⟨a1, da1, ha1⟩ := dd1
  refine q_start [some (.ref m), some (vi p), some (vi zi), none, none, none, none] (by decide) (Nat.le_of_ble_eq_true rfl) (fun q h => h) ?_
  refine q_aload_n d_Mo_signAt_0 rfl ?_
  refine q_iload_n d_Mo_signAt_1 rfl ?_
  refine q_i2l (by omega) d_Mo_signAt_2 ?_
  refine q_lconst (z := 0) d_Mo_signAt_3 (by decide) ?_
  refine q_lconst (z := 1) d_Mo_signAt_4 (by decide) ?_
  refine q_callS (As := [vl (p : Int), vl 0, vl 1]) (q_Mo_in l K L σ (by omega) (by omega) (by omega)) w_cd_Mo_in w_ini_Mo w_ml_Mo_140 w_st_Mo_in hd_Mo_in rfl (Nat.le_of_ble_eq_true rfl) d_Mo_signAt_5 (by decide) (by decide) (fun v σ9 hp => ?_)
  obtain ⟨rfl, hσ⟩ := hp
  rw [hσ, if_pos (by omega)]
  clear hσ σ9
  refine q_if_ne (tgt := 15) (by decide) d_Mo_signAt_8 (by decide) (fun c8 => ?_) (fun c8 => absurd c8 (by decide))
  refine q_iconst d_Mo_signAt_15 rfl ?_
  refine q_iconst d_Mo_signAt_16 rfl ?_
  refine q_callV (As := [vi 0, vi 1]) (q_Mo_fails0 l K _ hLL) w_cd_Mo_fails w_ini_Mo w_ml_Mo_146 w_im_Mo_fails w_se_Mo_fails hM0 rfl hd_Mo_fails rfl (Nat.le_of_ble_eq_true rfl) d_Mo_signAt_17 (by decide) (by decide) (fun v σ9 hp => ?_)
  obtain ⟨rfl, hσ⟩ := hp
  rw [hσ]
  clear hσ σ9
  refine q_if_ne (tgt := 31) (by decide) d_Mo_signAt_20 (by decide) (fun c20 => absurd c20 (by decide)) (fun c20 => ?_)
  refine q_aload_n d_Mo_signAt_23 rfl ?_
  refine q_iconst d_Mo_signAt_24 rfl ?_
  refine q_callV (As := [vi 2]) (c_Mo_lacks1 l K (n := a0) (n2 := a1) hLL (by rw [q_up_a _ _ (by omega)]; exact da0) (by rw [q_up_a _ _ (by omega)]; exact da1) ha0 ha1) w_cd_Mo_lacks w_ini_Mo w_ml_Mo_204 w_im_Mo_lacks w_se_Mo_lacks hM0 rfl hd_Mo_lacks rfl (Nat.le_of_ble_eq_true rfl) d_Mo_signAt_25 (by decide) (by decide) (fun v σ9 hp => ?_)
  obtain ⟨rfl, hσ⟩ := hp
  rw [hσ, q_up2]
  clear hσ σ9
  refine q_if_eq (tgt := 33) (by decide) d_Mo_signAt_28 (by decide) (fun c28 => ?_) (fun c28 => absurd c28 (by decide))
  refine q_iconst d_Mo_signAt_33 rfl ?_
  refine q_iload_n d_Mo_signAt_34 rfl ?_
  refine q_isub d_Mo_signAt_35 ?_
  refine q_topi (show (1 : Int) - (p : Int) = (o : Int) by omega) ?_
  refine q_ist_n_3 d_Mo_signAt_36 (by decide) rfl ?_
  refine q_aload_n d_Mo_signAt_37 rfl ?_
  refine q_iload_n d_Mo_signAt_38 rfl ?_
  refine q_callV (As := [vi p]) (c_Mo_isolates l K (p := p) (n := n) (P := P) hLL hp (by rw [q_up_a _ _ (by omega)]; exact hd) (fun k hk => (hP k hk).mv (up0 _)) hz hPn hn8 hb) w_cd_Mo_isolates w_ini_Mo w_ml_Mo_150 w_im_Mo_isolates w_se_Mo_isolates hM0 rfl hd_Mo_isolates rfl (Nat.le_of_ble_eq_true rfl) d_Mo_signAt_39 (by decide) (by decide) (fun v σ1 hp => ?_)
  obtain ⟨rfl, k0, k4⟩ := hp
  have kd2 : σ1 (m + 4) o = (n2 : Int) := by rw [k4.2.2.1 o (by omega) (by omega), q_up_a _ _ (by omega)]; exact hd2
  have kp2 : ∀ k, k ≤ n2 → rV σ1 m (9 * o + k) (P2 k) := fun k hk => ((hP2 k hk).mv (up0 _)).mv (k4.2.1 _ (by omega) (by omega) (by omega) (by omega))
  refine q_aload_n d_Mo_signAt_42 rfl ?_
  refine q_iload_n d_Mo_signAt_43 rfl ?_
  refine q_callV (As := [vi o]) (c_Mo_isolates l K (p := o) (n := n2) (P := P2) hLL (by omega) kd2 kp2 hz2 hPn2 hn82 hb2) w_cd_Mo_isolates w_ini_Mo w_ml_Mo_150 w_im_Mo_isolates w_se_Mo_isolates hM0 rfl hd_Mo_isolates rfl (Nat.le_of_ble_eq_true rfl) d_Mo_signAt_44 (by decide) (by decide) (fun v σ2 hp => ?_)
  obtain ⟨rfl, -, l4⟩ := hp
  obtain ⟨M, F, d, hg, k1, k2, k3⟩ := k0.mv hp (by omega) (by omega) l4
  have hcn := hg.cnt
  have hnn := hno M F d hg
  have hmk := k4.mk.trans l4.mk
  refine q_aload_n d_Mo_signAt_47 rfl ?_
  refine q_iload_n d_Mo_signAt_48 rfl ?_
  refine q_i2l (by omega) d_Mo_signAt_49 ?_
  refine q_lconst (z := 0) d_Mo_signAt_50 (by decide) ?_
  refine q_aload_n d_Mo_signAt_51 rfl ?_
  refine q_gr hM0 pc_Mo 7 (by decide) w_fl_Mo_30 rfl (by rfl) d_Mo_signAt_52 ?_
  refine q_iload_n d_Mo_signAt_55 rfl ?_
  refine q_ial (p) (by assumption) (by omega) (by omega) (by omega) d_Mo_signAt_56 ?_
  refine q_topi k2 ?_
  refine q_iconst d_Mo_signAt_57 rfl ?_
  refine q_isub d_Mo_signAt_58 ?_
  refine q_i2l (by omega) d_Mo_signAt_59 ?_
  refine q_callS (As := [vl zi, vl 0, vl (vlo F d M - vhi F d M - 1)]) (q_Mo_in l K L σ2 (by omega) (by omega) (by omega)) w_cd_Mo_in w_ini_Mo w_ml_Mo_140 w_st_Mo_in hd_Mo_in rfl (Nat.le_of_ble_eq_true rfl) d_Mo_signAt_60 (by decide) (by decide) (fun v σ9 hp => ?_)
  obtain ⟨rfl, hσ⟩ := hp
  rw [hσ, if_neg (by omega)]
  clear hσ σ9
  refine q_if_ne (tgt := 70) (by decide) d_Mo_signAt_63 (by decide) (fun c63 => absurd c63 (by decide)) (fun c63 => ?_)
  refine q_iconst d_Mo_signAt_66 rfl ?_
  refine q_goto (tgt := 71) d_Mo_signAt_67 (by decide) ?_
  refine q_iconst d_Mo_signAt_71 rfl ?_
  refine q_callV (As := [vi 1, vi 3]) (q_Mo_fails1 l K _ hLL) w_cd_Mo_fails w_ini_Mo w_ml_Mo_146 w_im_Mo_fails w_se_Mo_fails hM0 rfl hd_Mo_fails rfl (Nat.le_of_ble_eq_true rfl) d_Mo_signAt_72 (by decide) (by decide) (fun v σ9 hp => ?_)
  obtain ⟨rfl, hσ⟩ := hp
  rw [hσ]
  clear hσ σ9
  refine q_if_eq (tgt := 80) (by decide) d_Mo_signAt_75 (by decide) (fun c75 => absurd c75 (by decide)) (fun c75 => ?_)
  refine q_iconst d_Mo_signAt_78 rfl ?_
  exact q_iret rfl (⟨rfl, hmk.up⟩) d_Mo_signAt_79
set_option maxHeartbeats 4000000 in
set_option maxRecDepth 100000 in
theorem a_Mo_put (l : Launch) (K : pw_K) {L : q_L} {σ : q_S} {m p k : Nat} {t : Int} {P : Nat → Int} (hL : mL L m) (hp : p < 2) (hk : k < 9) (ht : -2147483648 ≤ t ∧ t < 2147483648) (hz : ∀ c, 9 ≤ c → P c = 0) : ∀ (f i : Nat) (s : Int), s = i → i + f = 9 → ∀ (σ1 : q_S), σ1 m 0 = 0 → (∀ c, c < i → rV σ1 m (9 * p + c) (P c)) → (∀ c, i ≤ c → c < 9 → P c = 0) → (∀ r, (r < 9 * p ∨ 9 * p + 9 ≤ r) → rE σ σ1 m r) → (∀ j, j ≠ p → σ1 (m + 4) j = σ (m + 4) j) → (∀ k, k ≠ 0 → σ1 m k = σ m k) → (∀ q, q ≠ m → q ≠ m + 1 → q ≠ m + 2 → q ≠ m + 3 → q ≠ m + 4 → q ≠ m + 9 → σ1 q = σ q) → q_T l K L R_Mo b_Mo_put 5 none 2 (fun r σ' => r = none ∧ σ' m 0 = 0 ∧ σ' (m + 4) p = (top (upP P k t) 9 : Int) - 1 ∧ (∀ i, i < 9 → rV σ' m (9 * p + i) (upP P k t i)) ∧ (∀ r, (r < 9 * p ∨ 9 * p + 9 ≤ r) → rE σ σ' m r) ∧ (∀ j, j ≠ p → σ' (m + 4) j = σ (m + 4) j) ∧ (∀ k, k ≠ 0 → σ' m k = σ m k) ∧ ∀ q, q ≠ m → q ≠ m + 1 → q ≠ m + 2 → q ≠ m + 3 → q ≠ m + 4 → q ≠ m + 9 → σ' q = σ q) 46 [some (.ref m), some (vi p), some (vi k), some (vi t), some (vi s)] [] σ1 := by
  have hLL := hL
  obtain ⟨hM0, hM1, hM2, hM3, hM4, hM5, hM6, hM7, hM8, hM9⟩ := hL
  intro f
  induction f with
  | zero =>
    intro i s hs hf σ1 g0 g1 g2 g3 g4 g5 g6
    refine q_iload d_Mo_put_46 rfl ?_
    refine q_bipush d_Mo_put_48 (by decide) ?_
    refine q_icmp_gt (tgt := 71) (by omega) (by omega) d_Mo_put_50 (by decide) (fun c50 => ?_) (fun c50 => absurd c50 (by omega))
    refine q_aload_n d_Mo_put_71 rfl ?_
    refine q_bipush d_Mo_put_72 (by decide) ?_
    refine q_iload_n d_Mo_put_74 rfl ?_
    refine q_imul d_Mo_put_75 ?_
    refine q_iload_n d_Mo_put_76 rfl ?_
    refine q_iadd d_Mo_put_77 ?_
    refine q_topi (show (9 : Int) * (p : Int) + (k : Int) = ((9 * p + k : Nat) : Int) by omega) ?_
    refine q_iload_n d_Mo_put_78 rfl ?_
    refine q_i2l (by omega) d_Mo_put_79 ?_
    refine q_callV (As := [vi ((9 * p + k : Nat) : Int), vl t]) (q_Mo_set l K σ1 (r := 9 * p + k) (v := t) hLL (by omega) (by omega)) w_cd_Mo_set w_ini_Mo w_ml_Mo_72 w_im_Mo_set w_se_Mo_set hM0 rfl hd_Mo_set rfl (Nat.le_of_ble_eq_true rfl) d_Mo_put_80 (by decide) (by decide) (fun v σ2 hp => ?_)
    obtain ⟨rfl, a1, a2, -, a3⟩ := hp
    have b1 : ∀ i, i < 9 → rV σ2 m (9 * p + i) (upP P k t i) := fun c hc => by
      unfold upP
      split
      · rename_i h9; rw [h9]; exact a1
      · rename_i h9; exact (g1 c (by omega)).mv (a3 _ (by omega))
    refine q_aload_n d_Mo_put_83 rfl ?_
    refine q_iload_n d_Mo_put_84 rfl ?_
    refine q_bipush d_Mo_put_85 (by decide) ?_
    refine q_callV (As := [vi p, vi 8]) (q_Mo_trimPoly l K (p := p) (N := 9) (f := 8) (P := upP P k t) hLL (by omega) (by omega) (by decide) b1) w_cd_Mo_trimPoly w_ini_Mo w_ml_Mo_86 w_im_Mo_trimPoly w_se_Mo_trimPoly hM0 rfl hd_Mo_trimPoly rfl (Nat.le_of_ble_eq_true rfl) d_Mo_put_87 (by decide) (by decide) (fun v σ3 hp => ?_)
    obtain ⟨rfl, c1, c2, c3⟩ := hp
    exact q_vret rfl (⟨rfl, by rw [c3 m (by omega), a2 m (by omega) (by omega) (by omega) (by omega)]; exact g0, c1, fun i hi => (b1 i hi).mv (rE_of (c3 _ (by omega)) (c3 _ (by omega)) (c3 _ (by omega)) _), fun r hr => ((g3 r hr).trans (a3 r (by omega))).trans (rE_of (c3 _ (by omega)) (c3 _ (by omega)) (c3 _ (by omega)) _), fun j hj => by rw [c2 j hj, a2 (m + 4) (by omega) (by omega) (by omega) (by omega)]; exact g4 j hj, fun k hk => by rw [c3 m (by omega), a2 m (by omega) (by omega) (by omega) (by omega)]; exact g5 k hk, fun q h0 h1 h2 h3 h4 h5 => by rw [c3 q h4, a2 q h1 h2 h3 h5]; exact g6 q h0 h1 h2 h3 h4 h5⟩) d_Mo_put_90
  | succ f ih =>
    intro i s hs hf σ1 g0 g1 g2 g3 g4 g5 g6
    refine q_iload d_Mo_put_46 rfl ?_
    refine q_bipush d_Mo_put_48 (by decide) ?_
    refine q_icmp_gt (tgt := 71) (by omega) (by omega) d_Mo_put_50 (by decide) (fun c50 => absurd c50 (by omega)) (fun c50 => ?_)
    refine q_aload_n d_Mo_put_53 rfl ?_
    refine q_bipush d_Mo_put_54 (by decide) ?_
    refine q_iload_n d_Mo_put_56 rfl ?_
    refine q_imul d_Mo_put_57 ?_
    refine q_iload d_Mo_put_58 rfl ?_
    refine q_iadd d_Mo_put_60 ?_
    refine q_topi (show (9 : Int) * (p : Int) + s = ((9 * p + i : Nat) : Int) by omega) ?_
    refine q_lconst (z := 0) d_Mo_put_61 (by decide) ?_
    refine q_callV (As := [vi ((9 * p + i : Nat) : Int), vl 0]) (q_Mo_set l K σ1 (r := 9 * p + i) (v := 0) hLL (by omega) (by omega)) w_cd_Mo_set w_ini_Mo w_ml_Mo_72 w_im_Mo_set w_se_Mo_set hM0 rfl hd_Mo_set rfl (Nat.le_of_ble_eq_true rfl) d_Mo_put_62 (by decide) (by decide) (fun v σ2 hp => ?_)
    obtain ⟨rfl, a1, a2, -, a3⟩ := hp
    refine q_iinc_4 d_Mo_put_65 (by decide) rfl ?_
    refine q_goto (tgt := 46) d_Mo_put_68 (by decide) ?_
    exact ih (i + 1) _ (by omega) (by omega) σ2 (by rw [a2 m (by omega) (by omega) (by omega) (by omega)]; exact g0) (fun c hc => by
          by_cases h9 : c = i
          · subst h9; rw [g2 c (by omega) (by omega)]; exact a1
          · exact (g1 c (by omega)).mv (a3 _ (by omega))) (fun c h1 h2 => g2 c (by omega) h2) (fun r hr => (g3 r hr).trans (a3 r (by omega))) (fun j hj => by rw [a2 (m + 4) (by omega) (by omega) (by omega) (by omega)]; exact g4 j hj) (fun k hk => by rw [a2 m (by omega) (by omega) (by omega) (by omega)]; exact g5 k hk) (fun q h0 h1 h2 h3 h4 h5 => by rw [a2 q h1 h2 h3 h5]; exact g6 q h0 h1 h2 h3 h4 h5)
set_option maxHeartbeats 4000000 in
set_option maxRecDepth 100000 in
theorem c_Mo_put2 (l : Launch) (K : pw_K) {L : q_L} {σ : q_S} {m p k : Nat} {t : Int} {P : Nat → Int} (hL : mL L m) (hp : p < 2) (hk : k < 9) (ht : -2147483648 ≤ t ∧ t < 2147483648) (hz : ∀ c, 9 ≤ c → P c = 0) (hd : σ (m + 4) p = (top P 9 : Int) - 1) (hP : ∀ i, i < top P 9 → rV σ m (9 * p + i) (P i)) : q_C l K L y_Mo_put b_Mo_put 5 none 2 [.ref m, vi p, vi k, vi t] σ (fun r σ' => r = none ∧ σ' m 0 = 0 ∧ σ' (m + 4) p = (top (upP P k t) 9 : Int) - 1 ∧ (∀ i, i < 9 → rV σ' m (9 * p + i) (upP P k t i)) ∧ (∀ r, (r < 9 * p ∨ 9 * p + 9 ≤ r) → rE σ σ' m r) ∧ (∀ j, j ≠ p → σ' (m + 4) j = σ (m + 4) j) ∧ (∀ k, k ≠ 0 → σ' m k = σ m k) ∧ ∀ q, q ≠ m → q ≠ m + 1 → q ≠ m + 2 → q ≠ m + 3 → q ≠ m + 4 → q ≠ m + 9 → σ' q = σ q) := by
  have hLL := hL
  obtain ⟨hM0, hM1, hM2, hM3, hM4, hM5, hM6, hM7, hM8, hM9⟩ := hL
  have ht9 := top_le9 P 9
  refine q_start [some (.ref m), some (vi p), some (vi k), some (vi t), none] (by decide) (Nat.le_of_ble_eq_true rfl) (fun q h => h) ?_
  refine q_aload_n d_Mo_put_0 rfl ?_
  refine q_iload_n d_Mo_put_1 rfl ?_
  refine q_i2l (by omega) d_Mo_put_2 ?_
  refine q_lconst (z := 0) d_Mo_put_3 (by decide) ?_
  refine q_lconst (z := 1) d_Mo_put_4 (by decide) ?_
  refine q_callS (As := [vl (p : Int), vl 0, vl 1]) (q_Mo_in l K L σ (by omega) (by omega) (by omega)) w_cd_Mo_in w_ini_Mo w_ml_Mo_140 w_st_Mo_in hd_Mo_in rfl (Nat.le_of_ble_eq_true rfl) d_Mo_put_5 (by decide) (by decide) (fun v σ9 hp => ?_)
  obtain ⟨rfl, hσ⟩ := hp
  rw [hσ, if_pos (by omega)]
  clear hσ σ9
  refine q_if_eq (tgt := 23) (by decide) d_Mo_put_8 (by decide) (fun c8 => absurd c8 (by decide)) (fun c8 => ?_)
  refine q_iload_n d_Mo_put_11 rfl ?_
  refine q_i2l (by omega) d_Mo_put_12 ?_
  refine q_lconst (z := 0) d_Mo_put_13 (by decide) ?_
  refine q_ldc2 (z := 8) w_kl_Mo_144 (by decide) d_Mo_put_14 ?_
  refine q_callS (As := [vl (k : Int), vl 0, vl 8]) (q_Mo_in l K L σ (by omega) (by omega) (by omega)) w_cd_Mo_in w_ini_Mo w_ml_Mo_140 w_st_Mo_in hd_Mo_in rfl (Nat.le_of_ble_eq_true rfl) d_Mo_put_17 (by decide) (by decide) (fun v σ9 hp => ?_)
  obtain ⟨rfl, hσ⟩ := hp
  rw [hσ, if_pos (by omega)]
  clear hσ σ9
  refine q_if_ne (tgt := 27) (by decide) d_Mo_put_20 (by decide) (fun c20 => ?_) (fun c20 => absurd c20 (by decide))
  refine q_iconst d_Mo_put_27 rfl ?_
  refine q_iconst d_Mo_put_28 rfl ?_
  refine q_callV (As := [vi 0, vi 1]) (q_Mo_fails0 l K _ hLL) w_cd_Mo_fails w_ini_Mo w_ml_Mo_146 w_im_Mo_fails w_se_Mo_fails hM0 rfl hd_Mo_fails rfl (Nat.le_of_ble_eq_true rfl) d_Mo_put_29 (by decide) (by decide) (fun v σ9 hp => ?_)
  obtain ⟨rfl, hσ⟩ := hp
  rw [hσ]
  clear hσ σ9
  refine q_if_eq (tgt := 36) (by decide) d_Mo_put_32 (by decide) (fun c32 => ?_) (fun c32 => absurd c32 (by decide))
  refine q_aload_n d_Mo_put_36 rfl ?_
  refine q_gr hM0 pc_Mo 4 (by decide) w_fl_Mo_20 rfl (by rfl) d_Mo_put_37 ?_
  refine q_iload_n d_Mo_put_40 rfl ?_
  refine q_ial (p) (by assumption) (by omega) (by omega) (by omega) d_Mo_put_41 ?_
  refine q_topi (show _ = (top P 9 : Int) - 1 by rw [q_up_a _ _ (by omega)]; exact hd) ?_
  refine q_iconst d_Mo_put_42 rfl ?_
  refine q_iadd d_Mo_put_43 ?_
  refine q_ist_4 d_Mo_put_44 (by decide) rfl ?_
  exact (a_Mo_put l K hLL hp hk ht hz (9 - top P 9) (top P 9) ((top P 9 : Int) - 1 + 1) (by omega) (by omega) (q_up σ m 0 0) (q_up_self _ _ _ _) (fun c hc => (hP c hc).mv (up0 _)) (fun c h1 h2 => top_zz h1 h2) (fun r _ => up0 r) (fun j _ => by rw [q_up_a _ _ (by omega)]) (fun k hk => q_up_k _ _ hk) (fun q h0 _ _ _ _ _ => q_up_a _ _ h0))
