/-! THE REFERENCE: stops, roots, repeated, side -/
theorem q_up2 (σ : q_S) (a k : Nat) (z : Int) : q_up (q_up σ a k z) a k z = q_up σ a k z := by
  funext q j
  by_cases h : q = a ∧ j = k
  · rw [h.1, h.2, q_up_self, q_up_self]
  · rw [q_up_ne _ _ h]
theorem and1 {j : Nat} (hj : j < 2) : Int32.ofInt (j : Int) &&& Int32.ofInt 1 = Int32.ofInt (j : Int) := by
  rcases (show j = 0 ∨ j = 1 by omega) with h | h <;> subst h <;> decide
theorem up0 {σ : q_S} {m : Nat} : (∀ r, rE σ (q_up σ m 0 0) m r) := fun r => ⟨fun v hv => mr_o _ _ (by omega), by rw [q_up_a _ _ (by omega)], by rw [q_up_a _ _ (by omega)]⟩
set_option maxHeartbeats 4000000 in
set_option maxRecDepth 100000 in
theorem c_Mo_stops (l : Launch) (K : pw_K) {L : q_L} {σ : q_S} {m p n : Nat} {P : Nat → Int} (hL : mL L m) (hp : p < 2) (hd : σ (m + 4) p = (n : Int)) (hP : ∀ k, k ≤ n → rV σ m (9 * p + k) (P k)) (hz : ∀ c, n < c → P c = 0) (hPn : P n ≠ 0) (hn8 : n ≤ 8) (hb : ∀ k, (P k).natAbs ≤ 2147483648) : q_C l K L y_Mo_stops b_Mo_stops 3 (some .boolean) 7 [.ref m, vi p, vi 1] σ (fun r σ' => r = some (vi 0) ∧ mst σ' m p P n ∧ isoF (q_up σ m 0 0) σ' m p) := by
  have hLL := hL
  obtain ⟨hM0, hM1, hM2, hM3, hM4, hM5, hM6, hM7, hM8, hM9⟩ := hL
  refine q_start [some (.ref m), some (vi p), some (vi 1)] (by decide) (Nat.le_of_ble_eq_true rfl) (fun q h => h) ?_
  refine q_aload_n d_Mo_stops_0 rfl ?_
  refine q_iload_n d_Mo_stops_1 rfl ?_
  refine q_i2l (by omega) d_Mo_stops_2 ?_
  refine q_lconst (z := 0) d_Mo_stops_3 (by decide) ?_
  refine q_lconst (z := 1) d_Mo_stops_4 (by decide) ?_
  refine q_callS (As := [vl (p : Int), vl 0, vl 1]) (q_Mo_in l K L σ (by omega) (by omega) (by omega)) w_cd_Mo_in w_ini_Mo w_ml_Mo_140 w_st_Mo_in hd_Mo_in rfl (Nat.le_of_ble_eq_true rfl) d_Mo_stops_5 (by decide) (by decide) (fun v σ9 hp => ?_)
  obtain ⟨rfl, hσ⟩ := hp
  rw [hσ, if_pos (by omega)]
  clear hσ σ9
  refine q_if_eq (tgt := 15) (by decide) d_Mo_stops_8 (by decide) (fun c8 => absurd c8 (by decide)) (fun c8 => ?_)
  refine q_iload_n d_Mo_stops_11 rfl ?_
  refine q_if_ne (tgt := 19) (by decide) d_Mo_stops_12 (by decide) (fun c12 => ?_) (fun c12 => absurd c12 (by decide))
  refine q_iconst d_Mo_stops_19 rfl ?_
  refine q_iconst d_Mo_stops_20 rfl ?_
  refine q_callV (As := [vi 0, vi 1]) (q_Mo_fails0 l K _ hLL) w_cd_Mo_fails w_ini_Mo w_ml_Mo_146 w_im_Mo_fails w_se_Mo_fails hM0 rfl hd_Mo_fails rfl (Nat.le_of_ble_eq_true rfl) d_Mo_stops_21 (by decide) (by decide) (fun v σ9 hp => ?_)
  obtain ⟨rfl, hσ⟩ := hp
  rw [hσ]
  clear hσ σ9
  refine q_if_ne (tgt := 51) (by decide) d_Mo_stops_24 (by decide) (fun c24 => absurd c24 (by decide)) (fun c24 => ?_)
  refine q_aload_n d_Mo_stops_27 rfl ?_
  refine q_aload_n d_Mo_stops_28 rfl ?_
  refine q_gr hM0 pc_Mo 4 (by decide) w_fl_Mo_20 rfl (by rfl) d_Mo_stops_29 ?_
  refine q_iload_n d_Mo_stops_32 rfl ?_
  refine q_iconst d_Mo_stops_33 rfl ?_
  refine q_iand (z := (p : Int)) (and1 hp) d_Mo_stops_34 ?_
  refine q_ial (p) (by assumption) (by omega) (by omega) (by omega) d_Mo_stops_35 ?_
  refine q_topi (show _ = (n : Int) by rw [q_up_a _ _ (by omega)]; exact hd) ?_
  refine q_if_ge (tgt := 43) (by omega) d_Mo_stops_36 (by decide) (fun c36 => ?_) (fun c36 => absurd c36 (by omega))
  refine q_iconst d_Mo_stops_43 rfl ?_
  refine q_iconst d_Mo_stops_44 rfl ?_
  refine q_callV (As := [vi 0, vi 2]) (q_Mo_fails0 l K _ hLL) w_cd_Mo_fails w_ini_Mo w_ml_Mo_146 w_im_Mo_fails w_se_Mo_fails hM0 rfl hd_Mo_fails rfl (Nat.le_of_ble_eq_true rfl) d_Mo_stops_45 (by decide) (by decide) (fun v σ9 hp => ?_)
  obtain ⟨rfl, hσ⟩ := hp
  rw [hσ, q_up2]
  clear hσ σ9
  refine q_if_eq (tgt := 53) (by decide) d_Mo_stops_48 (by decide) (fun c48 => ?_) (fun c48 => absurd c48 (by decide))
  refine q_aload_n d_Mo_stops_53 rfl ?_
  refine q_iload_n d_Mo_stops_54 rfl ?_
  refine q_callV (As := [vi p]) (c_Mo_isolates l K (p := p) (n := n) (P := P) hLL hp (by rw [q_up_a _ _ (by omega)]; exact hd) (fun k hk => (hP k hk).mv (up0 _)) hz hPn hn8 hb) w_cd_Mo_isolates w_ini_Mo w_ml_Mo_150 w_im_Mo_isolates w_se_Mo_isolates hM0 rfl hd_Mo_isolates rfl (Nat.le_of_ble_eq_true rfl) d_Mo_stops_55 (by decide) (by decide) (fun v σ1 hp => ?_)
  obtain ⟨rfl, k1, k2⟩ := hp
  refine q_iconst d_Mo_stops_58 rfl ?_
  exact q_zret rfl (by omega) (⟨rfl, k1, k2⟩) d_Mo_stops_59
set_option maxHeartbeats 4000000 in
set_option maxRecDepth 100000 in
theorem c_Mo_roots (l : Launch) (K : pw_K) {L : q_L} {σ : q_S} {m p n : Nat} {P : Nat → Int} (hL : mL L m) (hp : p < 2) (hd : σ (m + 4) p = (n : Int)) (hP : ∀ k, k ≤ n → rV σ m (9 * p + k) (P k)) (hz : ∀ c, n < c → P c = 0) (hPn : P n ≠ 0) (hn8 : n ≤ 8) (hb : ∀ k, (P k).natAbs ≤ 2147483648) : q_C l K L y_Mo_roots b_Mo_roots 2 (some .int) 8 [.ref m, vi p] σ (fun r σ' => (∃ (M : Nat) (F : Nat → Nat → Int) (d : Nat → Nat), gch P n M F d ∧ r = some (vi (vlo F d M - vhi F d M))) ∧ isoF (q_up σ m 0 0) σ' m p) := by
  have hLL := hL
  obtain ⟨hM0, hM1, hM2, hM3, hM4, hM5, hM6, hM7, hM8, hM9⟩ := hL
  refine q_start [some (.ref m), some (vi p)] (by decide) (Nat.le_of_ble_eq_true rfl) (fun q h => h) ?_
  refine q_aload_n d_Mo_roots_0 rfl ?_
  refine q_iload_n d_Mo_roots_1 rfl ?_
  refine q_iconst d_Mo_roots_2 rfl ?_
  refine q_callV (As := [vi p, vi 1]) (c_Mo_stops l K hLL hp hd hP hz hPn hn8 hb) w_cd_Mo_stops w_ini_Mo w_ml_Mo_153 w_im_Mo_stops w_se_Mo_stops hM0 rfl hd_Mo_stops rfl (Nat.le_of_ble_eq_true rfl) d_Mo_roots_3 (by decide) (by decide) (fun v σ1 hp => ?_)
  obtain ⟨rfl, ⟨M, F, d, hg, k1, k2, k3⟩, k4⟩ := hp
  have hcn := hg.cnt
  refine q_if_eq (tgt := 13) (by decide) d_Mo_roots_6 (by decide) (fun c6 => ?_) (fun c6 => absurd c6 (by decide))
  refine q_aload_n d_Mo_roots_13 rfl ?_
  refine q_gr hM0 pc_Mo 7 (by decide) w_fl_Mo_30 rfl (by rfl) d_Mo_roots_14 ?_
  refine q_iload_n d_Mo_roots_17 rfl ?_
  refine q_ial (p) (by assumption) (by omega) (by omega) (by omega) d_Mo_roots_18 ?_
  refine q_topi k2 ?_
  exact q_iret rfl (⟨⟨M, F, d, hg, rfl⟩, k4⟩) d_Mo_roots_19
set_option maxHeartbeats 4000000 in
set_option maxRecDepth 100000 in
theorem c_Mo_repeated (l : Launch) (K : pw_K) {L : q_L} {σ : q_S} {m p n : Nat} {P : Nat → Int} (hL : mL L m) (hp : p < 2) (hd : σ (m + 4) p = (n : Int)) (hP : ∀ k, k ≤ n → rV σ m (9 * p + k) (P k)) (hz : ∀ c, n < c → P c = 0) (hPn : P n ≠ 0) (hn8 : n ≤ 8) (hb : ∀ k, (P k).natAbs ≤ 2147483648) : q_C l K L y_Mo_repeated b_Mo_repeated 2 (some .int) 8 [.ref m, vi p] σ (fun r σ' => (∃ (M : Nat) (F : Nat → Nat → Int) (d : Nat → Nat), gch P n M F d ∧ r = some (vi ((n : Int) - d 0))) ∧ isoF (q_up σ m 0 0) σ' m p) := by
  have hLL := hL
  obtain ⟨hM0, hM1, hM2, hM3, hM4, hM5, hM6, hM7, hM8, hM9⟩ := hL
  refine q_start [some (.ref m), some (vi p)] (by decide) (Nat.le_of_ble_eq_true rfl) (fun q h => h) ?_
  refine q_aload_n d_Mo_repeated_0 rfl ?_
  refine q_iload_n d_Mo_repeated_1 rfl ?_
  refine q_iconst d_Mo_repeated_2 rfl ?_
  refine q_callV (As := [vi p, vi 1]) (c_Mo_stops l K hLL hp hd hP hz hPn hn8 hb) w_cd_Mo_stops w_ini_Mo w_ml_Mo_153 w_im_Mo_stops w_se_Mo_stops hM0 rfl hd_Mo_stops rfl (Nat.le_of_ble_eq_true rfl) d_Mo_repeated_3 (by decide) (by decide) (fun v σ1 hp => ?_)
  obtain ⟨rfl, ⟨M, F, d, hg, k1, k2, k3⟩, k4⟩ := hp
  have hcn := hg.cnt
  refine q_if_ne (tgt := 18) (by decide) d_Mo_repeated_6 (by decide) (fun c6 => absurd c6 (by decide)) (fun c6 => ?_)
  refine q_aload_n d_Mo_repeated_9 rfl ?_
  refine q_gr hM0 pc_Mo 4 (by decide) w_fl_Mo_20 rfl (by rfl) d_Mo_repeated_10 ?_
  refine q_iload_n d_Mo_repeated_13 rfl ?_
  refine q_ial (p) (by assumption) (by omega) (by omega) (by omega) d_Mo_repeated_14 ?_
  refine q_topi (show _ = (n : Int) by rw [k4.2.2.1 _ (by omega) (by omega), q_up_a _ _ (by omega)]; exact hd) ?_
  refine q_if_ne (tgt := 22) (by omega) d_Mo_repeated_15 (by decide) (fun c0 => ?_) (fun c0 => ?_)
  · refine q_aload_n d_Mo_repeated_22 rfl ?_
    refine q_gr hM0 pc_Mo 4 (by decide) w_fl_Mo_20 rfl (by rfl) d_Mo_repeated_23 ?_
    refine q_iload_n d_Mo_repeated_26 rfl ?_
    refine q_ial (p) (by assumption) (by omega) (by omega) (by omega) d_Mo_repeated_27 ?_
    refine q_topi (show _ = (n : Int) by rw [k4.2.2.1 _ (by omega) (by omega), q_up_a _ _ (by omega)]; exact hd) ?_
    refine q_aload_n d_Mo_repeated_28 rfl ?_
    refine q_gr hM0 pc_Mo 4 (by decide) w_fl_Mo_20 rfl (by rfl) d_Mo_repeated_29 ?_
    refine q_iconst d_Mo_repeated_32 rfl ?_
    refine q_iload_n d_Mo_repeated_33 rfl ?_
    refine q_iadd d_Mo_repeated_34 ?_
    refine q_topi (show (2 : Int) + (p : Int) = ((2 + p : Nat) : Int) by omega) ?_
    refine q_ial (2 + p) (by assumption) (by omega) (by omega) (by omega) d_Mo_repeated_35 ?_
    refine q_topi (k1 (by omega)).2.1 ?_
    refine q_isub d_Mo_repeated_36 ?_
    exact q_iret rfl (⟨⟨M, F, d, hg, rfl⟩, k4⟩) d_Mo_repeated_37
  · refine q_iconst d_Mo_repeated_18 rfl ?_
    refine q_goto (tgt := 37) d_Mo_repeated_19 (by decide) ?_
    exact q_iret rfl (⟨⟨M, F, d, hg, by rw [show (n : Int) - (d 0 : Int) = 0 by omega]⟩, k4⟩) d_Mo_repeated_37
