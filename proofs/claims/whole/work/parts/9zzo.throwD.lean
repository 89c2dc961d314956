/-! THE DESK: throws over the store -/
theorem at_dk {K : pw_K} {L : q_L} {σ : q_S} {f : pw_F} {x : Nat} (h : q_at K L σ f) (hD : dL L x) : dkO K f x := by
  obtain ⟨g, h1, h2⟩ := hD.2.1
  exact ⟨h _ _ hD.1, g, h _ _ h1, h2⟩
theorem at_he {K : pw_K} {L : q_L} {σ : q_S} {f : pw_F} {a : Nat} (h : q_at K L σ f) (hH : heL L a) : heO f a (Int32.ofInt (σ a 4)) (Int32.ofInt (σ a 5)) (Int32.ofInt (σ a 6)) (Int32.ofInt (σ a 7)) (Int32.ofInt (σ a 8)) := h _ _ hH.1
theorem at_py {K : pw_K} {L : q_L} {σ : q_S} {f : pw_F} {a : Nat} (h : q_at K L σ f) (hH : heL L a) : pyO f (a + 2) (Int32.ofInt (σ (a + 2) 1)) := h _ _ hH.2.2.1.1
theorem x_root {l : Launch} (hfl : nTr l) {K : pw_K} {L : q_L} {σ : q_S} {x a : Nat} {zi c : Int} (hH : heL L a) (hc : σ a 5 = c) (hcr : -2147483648 ≤ c ∧ c < 2147483648) (hzi : -2147483648 ≤ zi ∧ zi < 2147483648) (hno : zi < 0 ∨ c ≤ zi) (f : pw_F) (sz : Nat) (hat : q_at K L σ f) : pw_T l K y_D_checkRoot b_D_checkRoot 3 none (rmk 8 1 6) f (.ref x :: [.ref a, vi zi]) sz sNSE (fun f2 => f2 = f) := by
  have h1 := at_he hat hH
  rw [hc] at h1
  refine t_D_checkRoot l hfl K f x a sz (Int32.ofInt zi) (n := Int32.ofInt c) h1 ?_
  rcases hno with h | h
  · left
    exact (q_lt hzi (by decide) (y := 0)).2 h
  · right
    rw [q_lt hzi hcr]
    omega
theorem x_some {l : Launch} (hfl : nTr l) {K : pw_K} {L : q_L} {σ : q_S} {x j : Nat} (hD : dL L x) (hj : j < 2) (hd : σ (x + 2 + 177 * j + 2) 1 = -1) (f : pw_F) (sz : Nat) (hat : q_at K L σ f) : pw_T l K y_D_some b_D_some 3 (some (.object "SturmDesk$Held")) (rmk 8 1 6) f (.ref x :: [vi (j : Int)]) sz sISE (fun f2 => f2 = f) := by
  have h2 := at_py hat (hD.2.2.1 j hj)
  rw [hd] at h2
  exact t_D_some l hfl K f x sz (at_dk hat hD) j hj _ _ _ _ _ _ (at_he hat (hD.2.2.1 j hj)) h2 (by decide)
set_option maxHeartbeats 4000000 in
set_option maxRecDepth 100000 in
theorem k_D_multiple (l : Launch) (hfl : nTr l) (K : pw_K) {L : q_L} {σ : q_S} {x j n : Nat} {P : Nat → Int} (hD : dL L x) (hj : j < 2) (hi : hin σ (x + 2 + 177 * j) P) (hn : top P 9 = n + 1) {zi : Int} (hzi : -2147483648 ≤ zi ∧ zi < 2147483648) (hno : ∀ (M : Nat) (F : Nat → Nat → Int) (d : Nat → Nat), gch P n M F d → zi < 0 ∨ vlo F d M - vhi F d M ≤ zi) : q_K l K L y_D_multiple b_D_multiple 4 (some .int) 9 [.ref x, vi j, vi zi] σ sNSE (fun σ' => hin σ' (x + 2 + 177 * j) P ∧ (∀ q, (q < (x + 2 + 177 * j) ∨ (x + 2 + 177 * j) + 177 ≤ q) → (q ≤ x + 356 ∨ x + 447 ≤ q) → σ' q = σ q)) := by
  have hDL := hD
  obtain ⟨hD0, ⟨dg', hdg1, hdg2⟩, hHe, hbe, hqu, htx⟩ := hD
  have hH := hHe j hj
  have hb0 := hbe.1
  have hpt : ptL L (x + 356 + 25) := hbe.2.2.1
  have hsn := hi.1.pn hn
  have hdeg := hsn.2.2.2.2.1
  have hn8 := hsn.1
  refine x_start [some (.ref x), some (vi j), some (vi zi), none] (by decide) (Nat.le_of_ble_eq_true rfl) (fun q h => h) ?_
  refine x_aload_n d_D_multiple_0 rfl ?_
  refine x_iload_n d_D_multiple_1 rfl ?_
  refine x_callV (As := [vi j]) (q_D_checkPolynomial l K L σ x (by omega)) w_cd_D_checkPolynomial w_ini_D w_ml_D_37 w_im_D_checkPolynomial w_se_D_checkPolynomial hD0 rfl hd_D_checkPolynomial rfl (Nat.le_of_ble_eq_true rfl) d_D_multiple_2 (by decide) (by decide) (fun v σ9 hp => ?_)
  obtain ⟨rfl, hσ⟩ := hp
  rw [hσ]
  clear hσ σ9
  refine x_aload_n d_D_multiple_5 rfl ?_
  refine x_iload_n d_D_multiple_6 rfl ?_
  refine x_callV (As := [vi j]) (q_D_some l K σ hDL hj (dg := (n : Int)) hdeg (by omega)) w_cd_D_some w_ini_D w_ml_D_62 w_im_D_some w_se_D_some hD0 rfl hd_D_some rfl (Nat.le_of_ble_eq_true rfl) d_D_multiple_7 (by decide) (by decide) (fun v σ9 hp => ?_)
  obtain ⟨rfl, hσ⟩ := hp
  rw [hσ]
  clear hσ σ9
  refine x_ast_n_3 d_D_multiple_10 (by decide) rfl ?_
  refine x_aload_n d_D_multiple_11 rfl ?_
  refine x_aload_n d_D_multiple_12 rfl ?_
  refine x_gr hD0 pc_D 1 (by decide) w_fl_D_19 rfl (by rfl) d_D_multiple_13 ?_
  refine x_callV (As := [.ref (x + 356)]) (al_He_prepare l K hH hbe (by omega) hi hn) w_cd_He_prepare w_ini_He w_ml_D_66 w_im_He_prepare w_se_He_prepare hH.1 rfl hd_He_prepare rfl (Nat.le_of_ble_eq_true rfl) d_D_multiple_16 (by decide) (by decide) (fun v σ1 hp => ?_)
  obtain ⟨rfl, k1, ⟨M, F, d, re, k2⟩, k3⟩ := hp
  have hg := k2.1.1
  have hcn := hg.cnt
  have hc5 := k2.1.2.2.2.1
  refine x_aload_n d_D_multiple_19 rfl ?_
  refine x_aload_n d_D_multiple_20 rfl ?_
  refine x_iload_n d_D_multiple_21 rfl ?_
  exact x_callT (As := [.ref (x + 2 + 177 * j), vi zi]) (x_root hfl (c := vlo F d M - vhi F d M) hH hc5 (by omega) hzi (hno M F d hg)) w_cd_D_checkRoot w_ini_D w_ml_D_108 w_im_D_checkRoot w_se_D_checkRoot hD0 rfl hd_D_checkRoot rfl (Nat.le_of_ble_eq_true rfl) d_D_multiple_22 (by decide) (by decide) (⟨hin.rdy k1 hn k2, k3⟩)
set_option maxHeartbeats 4000000 in
set_option maxRecDepth 100000 in
theorem k_D_side (l : Launch) (hfl : nTr l) (K : pw_K) {L : q_L} {σ : q_S} {x j n : Nat} {P : Nat → Int} (hD : dL L x) (hj : j < 2) (hi : hin σ (x + 2 + 177 * j) P) (hn : top P 9 = n + 1) {zi : Int} (hzi : -2147483648 ≤ zi ∧ zi < 2147483648) (hno : ∀ (M : Nat) (F : Nat → Nat → Int) (d : Nat → Nat), gch P n M F d → zi < 0 ∨ vlo F d M - vhi F d M ≤ zi) {u : Int} {ee : Nat} (hee : ee ≤ 62) : q_K l K L y_D_side b_D_side 7 (some .int) 9 [.ref x, vi j, vi zi, vl u, vi ee] σ sNSE (fun σ' => hin σ' (x + 2 + 177 * j) P ∧ (∀ q, (q < (x + 2 + 177 * j) ∨ (x + 2 + 177 * j) + 177 ≤ q) → (q ≤ x + 356 ∨ x + 447 ≤ q) → σ' q = σ q)) := by
  have hDL := hD
  obtain ⟨hD0, ⟨dg', hdg1, hdg2⟩, hHe, hbe, hqu, htx⟩ := hD
  have hH := hHe j hj
  have hb0 := hbe.1
  have hpt : ptL L (x + 356 + 25) := hbe.2.2.1
  have hsn := hi.1.pn hn
  have hdeg := hsn.2.2.2.2.1
  have hn8 := hsn.1
  refine x_start [some (.ref x), some (vi j), some (vi zi), some (vl u), none, some (vi ee), none] (by decide) (Nat.le_of_ble_eq_true rfl) (fun q h => h) ?_
  refine x_aload_n d_D_side_0 rfl ?_
  refine x_iload_n d_D_side_1 rfl ?_
  refine x_callV (As := [vi j]) (q_D_checkPolynomial l K L σ x (by omega)) w_cd_D_checkPolynomial w_ini_D w_ml_D_37 w_im_D_checkPolynomial w_se_D_checkPolynomial hD0 rfl hd_D_checkPolynomial rfl (Nat.le_of_ble_eq_true rfl) d_D_side_2 (by decide) (by decide) (fun v σ9 hp => ?_)
  obtain ⟨rfl, hσ⟩ := hp
  rw [hσ]
  clear hσ σ9
  refine x_aload_n d_D_side_5 rfl ?_
  refine x_iload d_D_side_6 rfl ?_
  refine x_callV (As := [vi ee]) (q_D_checkExponent l K L σ x (by omega)) w_cd_D_checkExponent w_ini_D w_ml_D_76 w_im_D_checkExponent w_se_D_checkExponent hD0 rfl hd_D_checkExponent rfl (Nat.le_of_ble_eq_true rfl) d_D_side_8 (by decide) (by decide) (fun v σ9 hp => ?_)
  obtain ⟨rfl, hσ⟩ := hp
  rw [hσ]
  clear hσ σ9
  refine x_aload_n d_D_side_11 rfl ?_
  refine x_iload_n d_D_side_12 rfl ?_
  refine x_callV (As := [vi j]) (q_D_some l K σ hDL hj (dg := (n : Int)) hdeg (by omega)) w_cd_D_some w_ini_D w_ml_D_62 w_im_D_some w_se_D_some hD0 rfl hd_D_some rfl (Nat.le_of_ble_eq_true rfl) d_D_side_13 (by decide) (by decide) (fun v σ9 hp => ?_)
  obtain ⟨rfl, hσ⟩ := hp
  rw [hσ]
  clear hσ σ9
  refine x_ast_6 d_D_side_16 (by decide) rfl ?_
  refine x_aload d_D_side_18 rfl ?_
  refine x_aload_n d_D_side_20 rfl ?_
  refine x_gr hD0 pc_D 1 (by decide) w_fl_D_19 rfl (by rfl) d_D_side_21 ?_
  refine x_callV (As := [.ref (x + 356)]) (al_He_prepare l K hH hbe (by omega) hi hn) w_cd_He_prepare w_ini_He w_ml_D_66 w_im_He_prepare w_se_He_prepare hH.1 rfl hd_He_prepare rfl (Nat.le_of_ble_eq_true rfl) d_D_side_24 (by decide) (by decide) (fun v σ1 hp => ?_)
  obtain ⟨rfl, k1, ⟨M, F, d, re, k2⟩, k3⟩ := hp
  have hg := k2.1.1
  have hcn := hg.cnt
  have hc5 := k2.1.2.2.2.1
  refine x_aload_n d_D_side_27 rfl ?_
  refine x_aload d_D_side_28 rfl ?_
  refine x_iload_n d_D_side_30 rfl ?_
  exact x_callT (As := [.ref (x + 2 + 177 * j), vi zi]) (x_root hfl (c := vlo F d M - vhi F d M) hH hc5 (by omega) hzi (hno M F d hg)) w_cd_D_checkRoot w_ini_D w_ml_D_108 w_im_D_checkRoot w_se_D_checkRoot hD0 rfl hd_D_checkRoot rfl (Nat.le_of_ble_eq_true rfl) d_D_side_31 (by decide) (by decide) (⟨hin.rdy k1 hn k2, k3⟩)
set_option maxHeartbeats 4000000 in
set_option maxRecDepth 100000 in
theorem k_D_floor2 (l : Launch) (hfl : nTr l) (K : pw_K) {L : q_L} {σ : q_S} {x j n : Nat} {P : Nat → Int} (hD : dL L x) (hj : j < 2) (hi : hin σ (x + 2 + 177 * j) P) (hn : top P 9 = n + 1) {zi : Int} (hzi : -2147483648 ≤ zi ∧ zi < 2147483648) (hno : ∀ (M : Nat) (F : Nat → Nat → Int) (d : Nat → Nat), gch P n M F d → zi < 0 ∨ vlo F d M - vhi F d M ≤ zi) {m : Nat} (hm : m ≤ 300) : q_K l K L y_D_floor b_D_floor 7 (some .int) 9 [.ref x, vi j, vi zi, vi 0, vi m] σ sNSE (fun σ' => hin σ' (x + 2 + 177 * j) P ∧ (∀ q, (q < (x + 2 + 177 * j) ∨ (x + 2 + 177 * j) + 177 ≤ q) → (q ≤ x + 356 ∨ x + 447 ≤ q) → σ' q = σ q)) := by
  have hDL := hD
  obtain ⟨hD0, ⟨dg', hdg1, hdg2⟩, hHe, hbe, hqu, htx⟩ := hD
  have hH := hHe j hj
  have hb0 := hbe.1
  have hpt : ptL L (x + 356 + 25) := hbe.2.2.1
  have hsn := hi.1.pn hn
  have hdeg := hsn.2.2.2.2.1
  have hn8 := hsn.1
  refine x_start [some (.ref x), some (vi j), some (vi zi), some (vi 0), some (vi m), none, none] (by decide) (Nat.le_of_ble_eq_true rfl) (fun q h => h) ?_
  refine x_aload_n d_D_floor_0 rfl ?_
  refine x_iload_n d_D_floor_1 rfl ?_
  refine x_callV (As := [vi j]) (q_D_checkPolynomial l K L σ x (by omega)) w_cd_D_checkPolynomial w_ini_D w_ml_D_37 w_im_D_checkPolynomial w_se_D_checkPolynomial hD0 rfl hd_D_checkPolynomial rfl (Nat.le_of_ble_eq_true rfl) d_D_floor_2 (by decide) (by decide) (fun v σ9 hp => ?_)
  obtain ⟨rfl, hσ⟩ := hp
  rw [hσ]
  clear hσ σ9
  refine x_iload d_D_floor_5 rfl ?_
  refine x_if_lt (tgt := 27) (by omega) d_D_floor_7 (by decide) (fun c7 => absurd c7 (by omega)) (fun c7 => ?_)
  refine x_iload d_D_floor_10 rfl ?_
  refine x_iload_n d_D_floor_12 rfl ?_
  refine x_if_eq (tgt := 21) (by decide) d_D_floor_13 (by decide) (fun c13 => ?_) (fun c13 => absurd c13 (by decide))
  refine x_sipush d_D_floor_21 (by decide) ?_
  refine x_icmp_le (tgt := 37) (by omega) (by decide) d_D_floor_24 (by decide) (fun c24 => ?_) (fun c24 => absurd c24 (by omega))
  refine x_aload_n d_D_floor_37 rfl ?_
  refine x_iload_n d_D_floor_38 rfl ?_
  refine x_callV (As := [vi j]) (q_D_some l K σ hDL hj (dg := (n : Int)) hdeg (by omega)) w_cd_D_some w_ini_D w_ml_D_62 w_im_D_some w_se_D_some hD0 rfl hd_D_some rfl (Nat.le_of_ble_eq_true rfl) d_D_floor_39 (by decide) (by decide) (fun v σ9 hp => ?_)
  obtain ⟨rfl, hσ⟩ := hp
  rw [hσ]
  clear hσ σ9
  refine x_ast_5 d_D_floor_42 (by decide) rfl ?_
  refine x_aload d_D_floor_44 rfl ?_
  refine x_aload_n d_D_floor_46 rfl ?_
  refine x_gr hD0 pc_D 1 (by decide) w_fl_D_19 rfl (by rfl) d_D_floor_47 ?_
  refine x_callV (As := [.ref (x + 356)]) (al_He_prepare l K hH hbe (by omega) hi hn) w_cd_He_prepare w_ini_He w_ml_D_66 w_im_He_prepare w_se_He_prepare hH.1 rfl hd_He_prepare rfl (Nat.le_of_ble_eq_true rfl) d_D_floor_50 (by decide) (by decide) (fun v σ1 hp => ?_)
  obtain ⟨rfl, k1, ⟨M, F, d, re, k2⟩, k3⟩ := hp
  have hg := k2.1.1
  have hcn := hg.cnt
  have hc5 := k2.1.2.2.2.1
  refine x_aload_n d_D_floor_53 rfl ?_
  refine x_aload d_D_floor_54 rfl ?_
  refine x_iload_n d_D_floor_56 rfl ?_
  exact x_callT (As := [.ref (x + 2 + 177 * j), vi zi]) (x_root hfl (c := vlo F d M - vhi F d M) hH hc5 (by omega) hzi (hno M F d hg)) w_cd_D_checkRoot w_ini_D w_ml_D_108 w_im_D_checkRoot w_se_D_checkRoot hD0 rfl hd_D_checkRoot rfl (Nat.le_of_ble_eq_true rfl) d_D_floor_57 (by decide) (by decide) (⟨hin.rdy k1 hn k2, k3⟩)
set_option maxHeartbeats 4000000 in
set_option maxRecDepth 100000 in
theorem k_D_floorT (l : Launch) (hfl : nTr l) (K : pw_K) {L : q_L} {σ : q_S} {x j n : Nat} {P : Nat → Int} (hD : dL L x) (hj : j < 2) (hi : hin σ (x + 2 + 177 * j) P) (hn : top P 9 = n + 1) {zi : Int} (hzi : -2147483648 ≤ zi ∧ zi < 2147483648) (hno : ∀ (M : Nat) (F : Nat → Nat → Int) (d : Nat → Nat), gch P n M F d → zi < 0 ∨ vlo F d M - vhi F d M ≤ zi) {m : Nat} (hm : m ≤ 90) : q_K l K L y_D_floor b_D_floor 7 (some .int) 9 [.ref x, vi j, vi zi, vi 1, vi m] σ sNSE (fun σ' => hin σ' (x + 2 + 177 * j) P ∧ (∀ q, (q < (x + 2 + 177 * j) ∨ (x + 2 + 177 * j) + 177 ≤ q) → (q ≤ x + 356 ∨ x + 447 ≤ q) → σ' q = σ q)) := by
  have hDL := hD
  obtain ⟨hD0, ⟨dg', hdg1, hdg2⟩, hHe, hbe, hqu, htx⟩ := hD
  have hH := hHe j hj
  have hb0 := hbe.1
  have hpt : ptL L (x + 356 + 25) := hbe.2.2.1
  have hsn := hi.1.pn hn
  have hdeg := hsn.2.2.2.2.1
  have hn8 := hsn.1
  refine x_start [some (.ref x), some (vi j), some (vi zi), some (vi 1), some (vi m), none, none] (by decide) (Nat.le_of_ble_eq_true rfl) (fun q h => h) ?_
  refine x_aload_n d_D_floor_0 rfl ?_
  refine x_iload_n d_D_floor_1 rfl ?_
  refine x_callV (As := [vi j]) (q_D_checkPolynomial l K L σ x (by omega)) w_cd_D_checkPolynomial w_ini_D w_ml_D_37 w_im_D_checkPolynomial w_se_D_checkPolynomial hD0 rfl hd_D_checkPolynomial rfl (Nat.le_of_ble_eq_true rfl) d_D_floor_2 (by decide) (by decide) (fun v σ9 hp => ?_)
  obtain ⟨rfl, hσ⟩ := hp
  rw [hσ]
  clear hσ σ9
  refine x_iload d_D_floor_5 rfl ?_
  refine x_if_lt (tgt := 27) (by omega) d_D_floor_7 (by decide) (fun c7 => absurd c7 (by omega)) (fun c7 => ?_)
  refine x_iload d_D_floor_10 rfl ?_
  refine x_iload_n d_D_floor_12 rfl ?_
  refine x_if_eq (tgt := 21) (by decide) d_D_floor_13 (by decide) (fun c13 => absurd c13 (by decide)) (fun c13 => ?_)
  refine x_bipush d_D_floor_16 (by decide) ?_
  refine x_goto (tgt := 24) d_D_floor_18 (by decide) ?_
  refine x_icmp_le (tgt := 37) (by omega) (by decide) d_D_floor_24 (by decide) (fun c24 => ?_) (fun c24 => absurd c24 (by omega))
  refine x_aload_n d_D_floor_37 rfl ?_
  refine x_iload_n d_D_floor_38 rfl ?_
  refine x_callV (As := [vi j]) (q_D_some l K σ hDL hj (dg := (n : Int)) hdeg (by omega)) w_cd_D_some w_ini_D w_ml_D_62 w_im_D_some w_se_D_some hD0 rfl hd_D_some rfl (Nat.le_of_ble_eq_true rfl) d_D_floor_39 (by decide) (by decide) (fun v σ9 hp => ?_)
  obtain ⟨rfl, hσ⟩ := hp
  rw [hσ]
  clear hσ σ9
  refine x_ast_5 d_D_floor_42 (by decide) rfl ?_
  refine x_aload d_D_floor_44 rfl ?_
  refine x_aload_n d_D_floor_46 rfl ?_
  refine x_gr hD0 pc_D 1 (by decide) w_fl_D_19 rfl (by rfl) d_D_floor_47 ?_
  refine x_callV (As := [.ref (x + 356)]) (al_He_prepare l K hH hbe (by omega) hi hn) w_cd_He_prepare w_ini_He w_ml_D_66 w_im_He_prepare w_se_He_prepare hH.1 rfl hd_He_prepare rfl (Nat.le_of_ble_eq_true rfl) d_D_floor_50 (by decide) (by decide) (fun v σ1 hp => ?_)
  obtain ⟨rfl, k1, ⟨M, F, d, re, k2⟩, k3⟩ := hp
  have hg := k2.1.1
  have hcn := hg.cnt
  have hc5 := k2.1.2.2.2.1
  refine x_aload_n d_D_floor_53 rfl ?_
  refine x_aload d_D_floor_54 rfl ?_
  refine x_iload_n d_D_floor_56 rfl ?_
  exact x_callT (As := [.ref (x + 2 + 177 * j), vi zi]) (x_root hfl (c := vlo F d M - vhi F d M) hH hc5 (by omega) hzi (hno M F d hg)) w_cd_D_checkRoot w_ini_D w_ml_D_108 w_im_D_checkRoot w_se_D_checkRoot hD0 rfl hd_D_checkRoot rfl (Nat.le_of_ble_eq_true rfl) d_D_floor_57 (by decide) (by decide) (⟨hin.rdy k1 hn k2, k3⟩)
set_option maxHeartbeats 4000000 in
set_option maxRecDepth 100000 in
theorem k_D_signAt (l : Launch) (hfl : nTr l) (K : pw_K) {L : q_L} {σ : q_S} {x j n : Nat} {P : Nat → Int} (hD : dL L x) (hj : j < 2) (hi : hin σ (x + 2 + 177 * j) P) (hn : top P 9 = n + 1) {zi : Int} (hzi : -2147483648 ≤ zi ∧ zi < 2147483648) (hno : ∀ (M : Nat) (F : Nat → Nat → Int) (d : Nat → Nat), gch P n M F d → zi < 0 ∨ vlo F d M - vhi F d M ≤ zi) {n2 : Nat} {P2 : Nat → Int} (hi2 : hin σ (x + 2 + 177 * (1 - j)) P2) (hn2 : top P2 9 = n2 + 1) : q_K l K L y_D_signAt b_D_signAt 5 (some .int) 9 [.ref x, vi j, vi zi] σ sNSE (fun σ' => hin σ' (x + 2 + 177 * j) P ∧ (∀ q, (q < (x + 2 + 177 * j) ∨ (x + 2 + 177 * j) + 177 ≤ q) → (q ≤ x + 356 ∨ x + 447 ≤ q) → σ' q = σ q)) := by
  have hDL := hD
  obtain ⟨hD0, ⟨dg', hdg1, hdg2⟩, hHe, hbe, hqu, htx⟩ := hD
  have hH := hHe j hj
  have hb0 := hbe.1
  have hpt : ptL L (x + 356 + 25) := hbe.2.2.1
  have hsn := hi.1.pn hn
  have hdeg := hsn.2.2.2.2.1
  have hn8 := hsn.1
  have hsn2 := hi2.1.pn hn2
  refine x_start [some (.ref x), some (vi j), some (vi zi), none, none] (by decide) (Nat.le_of_ble_eq_true rfl) (fun q h => h) ?_
  refine x_aload_n d_D_signAt_0 rfl ?_
  refine x_iload_n d_D_signAt_1 rfl ?_
  refine x_callV (As := [vi j]) (q_D_checkPolynomial l K L σ x (by omega)) w_cd_D_checkPolynomial w_ini_D w_ml_D_37 w_im_D_checkPolynomial w_se_D_checkPolynomial hD0 rfl hd_D_checkPolynomial rfl (Nat.le_of_ble_eq_true rfl) d_D_signAt_2 (by decide) (by decide) (fun v σ9 hp => ?_)
  obtain ⟨rfl, hσ⟩ := hp
  rw [hσ]
  clear hσ σ9
  refine x_aload_n d_D_signAt_5 rfl ?_
  refine x_iload_n d_D_signAt_6 rfl ?_
  refine x_callV (As := [vi j]) (q_D_some l K σ hDL hj (dg := (n : Int)) hdeg (by omega)) w_cd_D_some w_ini_D w_ml_D_62 w_im_D_some w_se_D_some hD0 rfl hd_D_some rfl (Nat.le_of_ble_eq_true rfl) d_D_signAt_7 (by decide) (by decide) (fun v σ9 hp => ?_)
  obtain ⟨rfl, hσ⟩ := hp
  rw [hσ]
  clear hσ σ9
  refine x_ast_n_3 d_D_signAt_10 (by decide) rfl ?_
  refine x_aload_n d_D_signAt_11 rfl ?_
  refine x_iconst d_D_signAt_12 rfl ?_
  refine x_iload_n d_D_signAt_13 rfl ?_
  refine x_isub d_D_signAt_14 ?_
  refine x_topi (show (1 : Int) - j = ((1 - j : Nat) : Int) by omega) ?_
  refine x_callV (As := [vi ((1 - j : Nat) : Int)]) (q_D_some l K σ hDL (j := 1 - j) (by omega) (dg := (n2 : Int)) hsn2.2.2.2.2.1 (by omega)) w_cd_D_some w_ini_D w_ml_D_62 w_im_D_some w_se_D_some hD0 rfl hd_D_some rfl (Nat.le_of_ble_eq_true rfl) d_D_signAt_15 (by decide) (by decide) (fun v σ9 hp => ?_)
  obtain ⟨rfl, hσ⟩ := hp
  rw [hσ]
  clear hσ σ9
  refine x_ast_4 d_D_signAt_18 (by decide) rfl ?_
  refine x_aload_n d_D_signAt_20 rfl ?_
  refine x_aload_n d_D_signAt_21 rfl ?_
  refine x_gr hD0 pc_D 1 (by decide) w_fl_D_19 rfl (by rfl) d_D_signAt_22 ?_
  refine x_callV (As := [.ref (x + 356)]) (al_He_prepare l K hH hbe (by omega) hi hn) w_cd_He_prepare w_ini_He w_ml_D_66 w_im_He_prepare w_se_He_prepare hH.1 rfl hd_He_prepare rfl (Nat.le_of_ble_eq_true rfl) d_D_signAt_25 (by decide) (by decide) (fun v σ1 hp => ?_)
  obtain ⟨rfl, k1, ⟨M, F, d, re, k2⟩, k3⟩ := hp
  have hg := k2.1.1
  have hcn := hg.cnt
  have hc5 := k2.1.2.2.2.1
  refine x_aload_n d_D_signAt_28 rfl ?_
  refine x_aload_n d_D_signAt_29 rfl ?_
  refine x_iload_n d_D_signAt_30 rfl ?_
  exact x_callT (As := [.ref (x + 2 + 177 * j), vi zi]) (x_root hfl (c := vlo F d M - vhi F d M) hH hc5 (by omega) hzi (hno M F d hg)) w_cd_D_checkRoot w_ini_D w_ml_D_108 w_im_D_checkRoot w_se_D_checkRoot hD0 rfl hd_D_checkRoot rfl (Nat.le_of_ble_eq_true rfl) d_D_signAt_31 (by decide) (by decide) (⟨hin.rdy k1 hn k2, k3⟩)
set_option maxHeartbeats 4000000 in
set_option maxRecDepth 100000 in
theorem k_D_signAt2 (l : Launch) (hfl : nTr l) (K : pw_K) {L : q_L} {σ : q_S} {x j n : Nat} {P : Nat → Int} (hD : dL L x) (hj : j < 2) (hi : hin σ (x + 2 + 177 * j) P) (hn : top P 9 = n + 1) {zi : Int} (hd2 : σ ((x + 2 + 177 * (1 - j)) + 2) 1 = -1) : q_K l K L y_D_signAt b_D_signAt 5 (some .int) 9 [.ref x, vi j, vi zi] σ sISE (fun σ' => σ' = σ) := by
  have hDL := hD
  obtain ⟨hD0, ⟨dg', hdg1, hdg2⟩, hHe, hbe, hqu, htx⟩ := hD
  have hH := hHe j hj
  have hb0 := hbe.1
  have hpt : ptL L (x + 356 + 25) := hbe.2.2.1
  have hsn := hi.1.pn hn
  have hdeg := hsn.2.2.2.2.1
  have hn8 := hsn.1
  refine x_start [some (.ref x), some (vi j), some (vi zi), none, none] (by decide) (Nat.le_of_ble_eq_true rfl) (fun q h => h) ?_
  refine x_aload_n d_D_signAt_0 rfl ?_
  refine x_iload_n d_D_signAt_1 rfl ?_
  refine x_callV (As := [vi j]) (q_D_checkPolynomial l K L σ x (by omega)) w_cd_D_checkPolynomial w_ini_D w_ml_D_37 w_im_D_checkPolynomial w_se_D_checkPolynomial hD0 rfl hd_D_checkPolynomial rfl (Nat.le_of_ble_eq_true rfl) d_D_signAt_2 (by decide) (by decide) (fun v σ9 hp => ?_)
  obtain ⟨rfl, hσ⟩ := hp
  rw [hσ]
  clear hσ σ9
  refine x_aload_n d_D_signAt_5 rfl ?_
  refine x_iload_n d_D_signAt_6 rfl ?_
  refine x_callV (As := [vi j]) (q_D_some l K σ hDL hj (dg := (n : Int)) hdeg (by omega)) w_cd_D_some w_ini_D w_ml_D_62 w_im_D_some w_se_D_some hD0 rfl hd_D_some rfl (Nat.le_of_ble_eq_true rfl) d_D_signAt_7 (by decide) (by decide) (fun v σ9 hp => ?_)
  obtain ⟨rfl, hσ⟩ := hp
  rw [hσ]
  clear hσ σ9
  refine x_ast_n_3 d_D_signAt_10 (by decide) rfl ?_
  refine x_aload_n d_D_signAt_11 rfl ?_
  refine x_iconst d_D_signAt_12 rfl ?_
  refine x_iload_n d_D_signAt_13 rfl ?_
  refine x_isub d_D_signAt_14 ?_
  refine x_topi (show (1 : Int) - j = ((1 - j : Nat) : Int) by omega) ?_
  exact x_callT (As := [vi ((1 - j : Nat) : Int)]) (x_some hfl hDL (j := 1 - j) (by omega) hd2) w_cd_D_some w_ini_D w_ml_D_62 w_im_D_some w_se_D_some hD0 rfl hd_D_some rfl (Nat.le_of_ble_eq_true rfl) d_D_signAt_15 (by decide) (by decide) (rfl)
set_option maxHeartbeats 4000000 in
set_option maxRecDepth 100000 in
theorem k_D_order2 (l : Launch) (hfl : nTr l) (K : pw_K) {L : q_L} {σ : q_S} {x n : Nat} {P : Nat → Int} (hD : dL L x) (hi : hin σ (x + 2 + 177 * 0) P) (hn : top P 9 = n + 1) (hd2 : σ ((x + 2 + 177 * 1) + 2) 1 = -1) {zi zj : Int} : q_K l K L y_D_order b_D_order 5 (some .int) 9 [.ref x, vi zi, vi zj] σ sISE (fun σ' => σ' = σ) := by
  have hDL := hD
  obtain ⟨hD0, ⟨dg', hdg1, hdg2⟩, hHe, hbe, hqu, htx⟩ := hD
  have hsn := hi.1.pn hn
  have hn8 := hsn.1
  refine x_start [some (.ref x), some (vi zi), some (vi zj), none, none] (by decide) (Nat.le_of_ble_eq_true rfl) (fun q h => h) ?_
  refine x_aload_n d_D_order_0 rfl ?_
  refine x_iconst d_D_order_1 rfl ?_
  refine x_callV (As := [vi ((0 : Nat) : Int)]) (q_D_some l K σ hDL (j := 0) (by decide) (dg := (n : Int)) hsn.2.2.2.2.1 (by omega)) w_cd_D_some w_ini_D w_ml_D_62 w_im_D_some w_se_D_some hD0 rfl hd_D_some rfl (Nat.le_of_ble_eq_true rfl) d_D_order_2 (by decide) (by decide) (fun v σ9 hp => ?_)
  obtain ⟨rfl, hσ⟩ := hp
  rw [hσ]
  clear hσ σ9
  refine x_ast_n_3 d_D_order_5 (by decide) rfl ?_
  refine x_aload_n d_D_order_6 rfl ?_
  refine x_iconst d_D_order_7 rfl ?_
  exact x_callT (As := [vi ((1 : Nat) : Int)]) (x_some hfl hDL (j := 1) (by decide) hd2) w_cd_D_some w_ini_D w_ml_D_62 w_im_D_some w_se_D_some hD0 rfl hd_D_some rfl (Nat.le_of_ble_eq_true rfl) d_D_order_8 (by decide) (by decide) (rfl)
set_option maxHeartbeats 4000000 in
set_option maxRecDepth 100000 in
theorem k_D_common2 (l : Launch) (hfl : nTr l) (K : pw_K) {L : q_L} {σ : q_S} {x n : Nat} {P : Nat → Int} (hD : dL L x) (hi : hin σ (x + 2 + 177 * 0) P) (hn : top P 9 = n + 1) (hd2 : σ ((x + 2 + 177 * 1) + 2) 1 = -1) : q_K l K L y_D_common b_D_common 3 (some .int) 9 [.ref x] σ sISE (fun σ' => σ' = σ) := by
  have hDL := hD
  obtain ⟨hD0, ⟨dg', hdg1, hdg2⟩, hHe, hbe, hqu, htx⟩ := hD
  have hsn := hi.1.pn hn
  have hn8 := hsn.1
  refine x_start [some (.ref x), none, none] (by decide) (Nat.le_of_ble_eq_true rfl) (fun q h => h) ?_
  refine x_aload_n d_D_common_0 rfl ?_
  refine x_iconst d_D_common_1 rfl ?_
  refine x_callV (As := [vi ((0 : Nat) : Int)]) (q_D_some l K σ hDL (j := 0) (by decide) (dg := (n : Int)) hsn.2.2.2.2.1 (by omega)) w_cd_D_some w_ini_D w_ml_D_62 w_im_D_some w_se_D_some hD0 rfl hd_D_some rfl (Nat.le_of_ble_eq_true rfl) d_D_common_2 (by decide) (by decide) (fun v σ9 hp => ?_)
  obtain ⟨rfl, hσ⟩ := hp
  rw [hσ]
  clear hσ σ9
  refine x_ast_n_1 d_D_common_5 (by decide) rfl ?_
  refine x_aload_n d_D_common_6 rfl ?_
  refine x_iconst d_D_common_7 rfl ?_
  exact x_callT (As := [vi ((1 : Nat) : Int)]) (x_some hfl hDL (j := 1) (by decide) hd2) w_cd_D_some w_ini_D w_ml_D_62 w_im_D_some w_se_D_some hD0 rfl hd_D_some rfl (Nat.le_of_ble_eq_true rfl) d_D_common_8 (by decide) (by decide) (rfl)
set_option maxHeartbeats 4000000 in
set_option maxRecDepth 100000 in
theorem k_D_order (l : Launch) (hfl : nTr l) (K : pw_K) {L : q_L} {σ : q_S} {x n n2 : Nat} {P P2 : Nat → Int} (hD : dL L x) (hi : hin σ (x + 2 + 177 * 0) P) (hi2 : hin σ (x + 2 + 177 * 1) P2) (hn : top P 9 = n + 1) (hn2 : top P2 9 = n2 + 1) {zi zj : Int} (hzi : -2147483648 ≤ zi ∧ zi < 2147483648) (hzj : -2147483648 ≤ zj ∧ zj < 2147483648) (hno : ∀ (M : Nat) (F : Nat → Nat → Int) (d : Nat → Nat) (M2 : Nat) (F2 : Nat → Nat → Int) (d2 : Nat → Nat), gch P n M F d → gch P2 n2 M2 F2 d2 → (zi < 0 ∨ vlo F d M - vhi F d M ≤ zi) ∨ (zj < 0 ∨ vlo F2 d2 M2 - vhi F2 d2 M2 ≤ zj)) : q_K l K L y_D_order b_D_order 5 (some .int) 9 [.ref x, vi zi, vi zj] σ sNSE (fun σ' => hin σ' (x + 2 + 177 * 0) P ∧ hin σ' (x + 2 + 177 * 1) P2 ∧ (∀ q, (q < x + 2 ∨ x + 356 ≤ q) → (q ≤ x + 356 ∨ x + 447 ≤ q) → σ' q = σ q)) := by
  have hDL := hD
  obtain ⟨hD0, ⟨dg', hdg1, hdg2⟩, hHe, hbe, hqu, htx⟩ := hD
  have hH := hHe 0 (by decide)
  have hH2 := hHe 1 (by decide)
  have hb0 := hbe.1
  have hsn := hi.1.pn hn
  have hsn2 := hi2.1.pn hn2
  refine x_start [some (.ref x), some (vi zi), some (vi zj), none, none] (by decide) (Nat.le_of_ble_eq_true rfl) (fun q h => h) ?_
  refine x_aload_n d_D_order_0 rfl ?_
  refine x_iconst d_D_order_1 rfl ?_
  refine x_callV (As := [vi ((0 : Nat) : Int)]) (q_D_some l K σ hDL (j := 0) (by decide) (dg := (n : Int)) hsn.2.2.2.2.1 (by omega)) w_cd_D_some w_ini_D w_ml_D_62 w_im_D_some w_se_D_some hD0 rfl hd_D_some rfl (Nat.le_of_ble_eq_true rfl) d_D_order_2 (by decide) (by decide) (fun v σ9 hp => ?_)
  obtain ⟨rfl, hσ⟩ := hp
  rw [hσ]
  clear hσ σ9
  refine x_ast_n_3 d_D_order_5 (by decide) rfl ?_
  refine x_aload_n d_D_order_6 rfl ?_
  refine x_iconst d_D_order_7 rfl ?_
  refine x_callV (As := [vi ((1 : Nat) : Int)]) (q_D_some l K σ hDL (j := 1) (by decide) (dg := (n2 : Int)) hsn2.2.2.2.2.1 (by omega)) w_cd_D_some w_ini_D w_ml_D_62 w_im_D_some w_se_D_some hD0 rfl hd_D_some rfl (Nat.le_of_ble_eq_true rfl) d_D_order_8 (by decide) (by decide) (fun v σ9 hp => ?_)
  obtain ⟨rfl, hσ⟩ := hp
  rw [hσ]
  clear hσ σ9
  refine x_ast_4 d_D_order_11 (by decide) rfl ?_
  refine x_aload_n d_D_order_13 rfl ?_
  refine x_aload_n d_D_order_14 rfl ?_
  refine x_gr hD0 pc_D 1 (by decide) w_fl_D_19 rfl (by rfl) d_D_order_15 ?_
  refine x_callV (As := [.ref (x + 356)]) (al_He_prepare l K hH hbe (by omega) hi hn) w_cd_He_prepare w_ini_He w_ml_D_66 w_im_He_prepare w_se_He_prepare hH.1 rfl hd_He_prepare rfl (Nat.le_of_ble_eq_true rfl) d_D_order_18 (by decide) (by decide) (fun v σ1 hp => ?_)
  obtain ⟨rfl, k1, ⟨M, F, d, re, k2⟩, k3⟩ := hp
  have hi2b : hin σ1 (x + 2 + 177 * 1) P2 := hi2.mv (fun q h1 h2 => k3 q (by omega) (by omega))
  refine x_aload d_D_order_21 rfl ?_
  refine x_aload_n d_D_order_23 rfl ?_
  refine x_gr hD0 pc_D 1 (by decide) w_fl_D_19 rfl (by rfl) d_D_order_24 ?_
  refine x_callV (As := [.ref (x + 356)]) (al_He_prepare l K hH2 hbe (by omega) hi2b hn2) w_cd_He_prepare w_ini_He w_ml_D_66 w_im_He_prepare w_se_He_prepare hH2.1 rfl hd_He_prepare rfl (Nat.le_of_ble_eq_true rfl) d_D_order_27 (by decide) (by decide) (fun v σ2 hp => ?_)
  obtain ⟨rfl, k4, ⟨M2, F2, d2, re2, k5⟩, k6⟩ := hp
  have k2b : heR σ2 (x + 2 + 177 * 0) P n M F d re := k2.mv (k6 _ (by omega) (by omega)) (by rw [k6 _ (by omega) (by omega)]) (fun q h1 h2 => k6 q (by omega) (by omega))
  have k1b : src σ2 (x + 2 + 177 * 0) P := k1.mv (fun q h1 h2 => k6 q (by omega) (by omega))
  have hg := k2b.1.1
  have hg2 := k5.1.1
  have hcn := hg.cnt
  have hcn2 := hg2.cnt
  have hn8 := hsn.1
  have hn8b := hsn2.1
  have hnn := hno M F d M2 F2 d2 hg hg2
  refine x_aload_n d_D_order_30 rfl ?_
  refine x_aload_n d_D_order_31 rfl ?_
  refine x_iload_n d_D_order_32 rfl ?_
  by_cases hA : zi < 0 ∨ vlo F d M - vhi F d M ≤ zi
  · exact x_callT (As := [.ref (x + 2 + 177 * 0), vi zi]) (x_root hfl (c := vlo F d M - vhi F d M) hH k2b.1.2.2.2.1 (by omega) hzi hA) w_cd_D_checkRoot w_ini_D w_ml_D_108 w_im_D_checkRoot w_se_D_checkRoot hD0 rfl hd_D_checkRoot rfl (Nat.le_of_ble_eq_true rfl) d_D_order_33 (by decide) (by decide) (⟨hin.rdy k1b hn k2b, hin.rdy k4 hn2 k5, fun q h1 h2 => by rw [k6 q (by omega) (by omega), k3 q (by omega) (by omega)]⟩)
  · refine x_callV (As := [.ref (x + 2 + 177 * 0), vi zi]) (q_D_checkRoot l K (n := vlo F d M - vhi F d M) hH k2b.1.2.2.2.1 (by omega) (by omega)) w_cd_D_checkRoot w_ini_D w_ml_D_108 w_im_D_checkRoot w_se_D_checkRoot hD0 rfl hd_D_checkRoot rfl (Nat.le_of_ble_eq_true rfl) d_D_order_33 (by decide) (by decide) (fun v σ9 hp => ?_)
    obtain ⟨rfl, hσ⟩ := hp
    rw [hσ]
    clear hσ σ9
    refine x_aload_n d_D_order_36 rfl ?_
    refine x_aload d_D_order_37 rfl ?_
    refine x_iload_n d_D_order_39 rfl ?_
    exact x_callT (As := [.ref (x + 2 + 177 * 1), vi zj]) (x_root hfl (c := vlo F2 d2 M2 - vhi F2 d2 M2) hH2 k5.1.2.2.2.1 (by omega) hzj (by omega)) w_cd_D_checkRoot w_ini_D w_ml_D_108 w_im_D_checkRoot w_se_D_checkRoot hD0 rfl hd_D_checkRoot rfl (Nat.le_of_ble_eq_true rfl) d_D_order_40 (by decide) (by decide) (⟨hin.rdy k1b hn k2b, hin.rdy k4 hn2 k5, fun q h1 h2 => by rw [k6 q (by omega) (by omega), k3 q (by omega) (by omega)]⟩)
