/-! THE DESK: what it holds between calls; roots, repeated, between, side -/
/-- the polynomial as it was put -/
def src (σ : q_S) (a : Nat) (P : Nat → Int) : Prop := (∀ j, j < 9 → nV σ (a + 2 + 2 + 2 * j) 48 (P j)) ∧ (∀ j, j < 9 → σ (a + 1) j = P j) ∧ (∀ j, j < 9 → -2147483648 ≤ P j ∧ P j < 2147483648) ∧ (∀ j, 9 ≤ j → P j = 0) ∧ σ (a + 2) 1 = (top P 9 : Int) - 1
/-- .. and what was found out about it -/
def hin (σ : q_S) (a : Nat) (P : Nat → Int) : Prop := src σ a P ∧ (σ a 4 = 0 ∨ ∃ (n M : Nat) (F : Nat → Nat → Int) (d : Nat → Nat) (re : Nat), top P 9 = n + 1 ∧ heR σ a P n M F d re)
theorem src.mv {σ σ' : q_S} {a : Nat} {P : Nat → Int} (h : src σ a P) (e : ∀ q, a + 1 ≤ q → q < a + 22 → σ' q = σ q) : src σ' a P := by
  obtain ⟨h1, h2, h3, h4, h5⟩ := h
  exact ⟨fun j hj => (h1 j hj).mv (e _ (by omega) (by omega)) (e _ (by omega) (by omega)), fun j hj => by rw [e _ (by omega) (by omega)]; exact h2 j hj, h3, h4, by rw [e _ (by omega) (by omega)]; exact h5⟩
theorem hin.mv {σ σ' : q_S} {a : Nat} {P : Nat → Int} (h : hin σ a P) (e : ∀ q, a ≤ q → q < a + 177 → σ' q = σ q) : hin σ' a P := by
  refine ⟨h.1.mv (fun q h1 h2 => e q (by omega) (by omega)), ?_⟩
  rcases h.2 with h1 | ⟨n, M, F, d, re, h1, h2⟩
  · left; rw [e _ (by omega) (by omega)]; exact h1
  · exact Or.inr ⟨n, M, F, d, re, h1, h2.mv (e _ (by omega) (by omega)) (by rw [e _ (by omega) (by omega)]) (fun q a1 a2 => e q (by omega) a2)⟩
theorem top_le9 (P : Nat → Int) : ∀ n, top P n ≤ n
  | 0 => Nat.le_refl _
  | n + 1 => by
    rw [top]
    split
    · exact Nat.le_trans (top_le9 P n) (by omega)
    · exact Nat.le_refl _
theorem top_zz {P : Nat → Int} : ∀ {n c : Nat}, top P n ≤ c → c < n → P c = 0
  | 0, c, _, h => by omega
  | n + 1, c, h1, h2 => by
    rw [top] at h1
    split at h1
    · rename_i h3
      rcases Nat.lt_or_ge c n with h4 | h4
      · exact top_zz h1 h4
      · rw [show c = n by omega]; exact h3
    · omega
theorem src.pn {σ : q_S} {a : Nat} {P : Nat → Int} (h : src σ a P) {n : Nat} (hn : top P 9 = n + 1) : n ≤ 8 ∧ P n ≠ 0 ∧ (∀ c, n < c → P c = 0) ∧ (∀ k, (P k).natAbs ≤ 2147483648) ∧ σ (a + 2) 1 = (n : Int) ∧ ∀ k, k ≤ n → nV σ (a + 2 + 2 + 2 * k) 48 (P k) := by
  obtain ⟨h1, h2, h3, h4, h5⟩ := h
  have h6 := top_le9 P 9
  have h7 := top_ne (P := P) (n := 9) (by omega)
  rw [hn, Nat.add_sub_cancel] at h7
  refine ⟨by omega, h7, fun c hc => ?_, fun k => ?_, by rw [h5, hn]; omega, fun k hk => h1 k (by omega)⟩
  · rcases Nat.lt_or_ge c 9 with h8 | h8
    · exact top_zz (n := 9) (by omega) h8
    · exact h4 c h8
  · rcases Nat.lt_or_ge k 9 with h8 | h8
    · have := h3 k h8; omega
    · rw [h4 k h8]; decide
theorem ptX_nn (z : Int) (k : Nat) : ptX z (k : Int) = z := if_pos (by omega)
theorem ptE_nn (k : Nat) : ptE (k : Int) = k := by unfold ptE; omega
set_option maxHeartbeats 4000000 in
set_option maxRecDepth 100000 in
theorem c_He_prepare1 (l : Launch) (K : pw_K) {L : q_L} {σ : q_S} {a B : Nat} (hL : heL L a) (hrd : σ a 4 = 1) : q_C l K L y_He_prepare b_He_prepare 3 none 6 [.ref a, .ref B] σ (fun r σ' => r = none ∧ σ' = σ) := by
  have hH0 := hL.1
  refine q_start [some (.ref a), some (.ref B), none] (by decide) (Nat.le_of_ble_eq_true rfl) (fun q h => h) ?_
  refine q_aload_n d_He_prepare_0 rfl ?_
  refine q_gi hH0 pc_He 4 (by decide) w_fl_He_53 rfl (by rfl) d_He_prepare_1 ?_
  refine q_topi hrd ?_
  refine q_if_eq (tgt := 8) (by omega) d_He_prepare_4 (by decide) (fun c4 => absurd c4 (by omega)) (fun c4 => ?_)
  exact q_vret rfl (⟨rfl, rfl⟩) d_He_prepare_7
theorem al_He_prepare (l : Launch) (K : pw_K) {L : q_L} {σ : q_S} {a B n : Nat} {P : Nat → Int} (hL : heL L a) (hbL : beL L B) (hdj : a + 177 ≤ B) (hi : hin σ a P) (hn : top P 9 = n + 1) : q_C l K L y_He_prepare b_He_prepare 3 none 6 [.ref a, .ref B] σ (fun r σ' => r = none ∧ src σ' a P ∧ (∃ (M : Nat) (F : Nat → Nat → Int) (d : Nat → Nat) (re : Nat), heR σ' a P n M F d re) ∧ (∀ q, (q < a ∨ a + 177 ≤ q) → (q ≤ B ∨ B + 91 ≤ q) → σ' q = σ q)) := by
  obtain ⟨hs, hr⟩ := hi
  rcases hr with h0 | ⟨n', M, F, d, re, h1, h2⟩
  · obtain ⟨p1, p2, p3, p4, p5, p6⟩ := hs.pn hn
    refine q_C.mono (c_He_prepare l K hL hbL (Or.inl hdj) h0 p1 p5 p6 p3 p2 p4) (fun r σ' hp => ?_)
    obtain ⟨k1, ⟨M, F, d, re, k2⟩, k3, k4⟩ := hp
    exact ⟨k1, hs.mv (fun q h1 h2 => k4 q (by omega) (by omega)), ⟨M, F, d, re, k2, fun i hi => Or.inl (k3 i hi)⟩, fun q h1 h2 => k4 q (by omega) h2⟩
  · have hnn : n' = n := by omega
    subst hnn
    refine q_C.mono (c_He_prepare1 l K (B := B) hL h2.1.2.2.1) (fun r σ' hp => ?_)
    obtain ⟨k1, rfl⟩ := hp
    exact ⟨k1, hs, ⟨M, F, d, re, h2⟩, fun q _ _ => rfl⟩
set_option maxHeartbeats 4000000 in
set_option maxRecDepth 100000 in
theorem q_D_checkRoot (l : Launch) (K : pw_K) {L : q_L} {σ : q_S} {x a : Nat} {i n : Int} (hL : heL L a) (hn : σ a 5 = n) (hn2 : 0 ≤ n ∧ n ≤ 100) (hi : 0 ≤ i ∧ i < n) : q_C l K L y_D_checkRoot b_D_checkRoot 3 none 0 [.ref x, .ref a, vi i] σ (fun r σ' => r = none ∧ σ' = σ) := by
  have hH0 := hL.1
  refine q_start [some (.ref x), some (.ref a), some (vi i)] (by decide) (Nat.le_of_ble_eq_true rfl) (fun q h => h) ?_
  refine q_iload_n d_D_checkRoot_0 rfl ?_
  refine q_if_lt (tgt := 12) (by omega) d_D_checkRoot_1 (by decide) (fun c1 => absurd c1 (by omega)) (fun c1 => ?_)
  refine q_iload_n d_D_checkRoot_4 rfl ?_
  refine q_aload_n d_D_checkRoot_5 rfl ?_
  refine q_gi hH0 pc_He 5 (by decide) w_fl_D_70 rfl (by rfl) d_D_checkRoot_6 ?_
  refine q_topi hn ?_
  refine q_icmp_lt (tgt := 22) (by omega) (by omega) d_D_checkRoot_9 (by decide) (fun c9 => ?_) (fun c9 => absurd c9 (by omega))
  exact q_vret rfl (⟨rfl, rfl⟩) d_D_checkRoot_22
set_option maxHeartbeats 4000000 in
set_option maxRecDepth 100000 in
theorem q_D_roots (l : Launch) (K : pw_K) {L : q_L} {σ : q_S} {x j n : Nat} {P : Nat → Int} (hD : dL L x) (hj : j < 2) (hi : hin σ (x + 2 + 177 * j) P) (hn : top P 9 = n + 1) : q_C l K L y_D_roots b_D_roots 3 (some .int) 9 [.ref x, vi j] σ (fun r σ' => (∃ (M : Nat) (F : Nat → Nat → Int) (d : Nat → Nat) (re : Nat), r = some (vi (vlo F d M - vhi F d M)) ∧ heR σ' (x + 2 + 177 * j) P n M F d re) ∧ src σ' (x + 2 + 177 * j) P ∧ (∀ q, (q < (x + 2 + 177 * j) ∨ (x + 2 + 177 * j) + 177 ≤ q) → (q ≤ x + 356 ∨ x + 447 ≤ q) → σ' q = σ q)) := by
  have hDL := hD
  obtain ⟨hD0, ⟨dg', hdg1, hdg2⟩, hHe, hbe, hqu, htx⟩ := hD
  have hH := hHe j hj
  have hb0 := hbe.1
  have hpt : ptL L (x + 356 + 25) := hbe.2.2.1
  have hsn := hi.1.pn hn
  have hdeg := hsn.2.2.2.2.1
  have hn8 := hsn.1
  refine q_start [some (.ref x), some (vi j), none] (by decide) (Nat.le_of_ble_eq_true rfl) (fun q h => h) ?_
  refine q_aload_n d_D_roots_0 rfl ?_
  refine q_iload_n d_D_roots_1 rfl ?_
  refine q_callV (As := [vi j]) (q_D_checkPolynomial l K L σ x (by omega)) w_cd_D_checkPolynomial w_ini_D w_ml_D_37 w_im_D_checkPolynomial w_se_D_checkPolynomial hD0 rfl hd_D_checkPolynomial rfl (Nat.le_of_ble_eq_true rfl) d_D_roots_2 (by decide) (by decide) (fun v σ9 hp => ?_)
  obtain ⟨rfl, hσ⟩ := hp
  rw [hσ]
  clear hσ σ9
  refine q_aload_n d_D_roots_5 rfl ?_
  refine q_iload_n d_D_roots_6 rfl ?_
  refine q_callV (As := [vi j]) (q_D_some l K σ hDL hj (dg := (n : Int)) hdeg (by omega)) w_cd_D_some w_ini_D w_ml_D_62 w_im_D_some w_se_D_some hD0 rfl hd_D_some rfl (Nat.le_of_ble_eq_true rfl) d_D_roots_7 (by decide) (by decide) (fun v σ9 hp => ?_)
  obtain ⟨rfl, hσ⟩ := hp
  rw [hσ]
  clear hσ σ9
  refine q_ast_n_2 d_D_roots_10 (by decide) rfl ?_
  refine q_aload_n d_D_roots_11 rfl ?_
  refine q_aload_n d_D_roots_12 rfl ?_
  refine q_gr hD0 pc_D 1 (by decide) w_fl_D_19 rfl (by rfl) d_D_roots_13 ?_
  refine q_callV (As := [.ref (x + 356)]) (al_He_prepare l K hH hbe (by omega) hi hn) w_cd_He_prepare w_ini_He w_ml_D_66 w_im_He_prepare w_se_He_prepare hH.1 rfl hd_He_prepare rfl (Nat.le_of_ble_eq_true rfl) d_D_roots_16 (by decide) (by decide) (fun v σ1 hp => ?_)
  obtain ⟨rfl, k1, ⟨M, F, d, re, k2⟩, k3⟩ := hp
  have hg := k2.1.1
  have hcn := hg.cnt
  have hc5 := k2.1.2.2.2.1
  refine q_aload_n d_D_roots_19 rfl ?_
  refine q_gi hH.1 pc_He 5 (by decide) w_fl_D_70 rfl (by rfl) d_D_roots_20 ?_
  refine q_topi k2.1.2.2.2.1 ?_
  exact q_iret rfl (⟨⟨M, F, d, re, rfl, k2⟩, k1, k3⟩) d_D_roots_23
set_option maxHeartbeats 4000000 in
set_option maxRecDepth 100000 in
theorem q_D_repeated (l : Launch) (K : pw_K) {L : q_L} {σ : q_S} {x j n : Nat} {P : Nat → Int} (hD : dL L x) (hj : j < 2) (hi : hin σ (x + 2 + 177 * j) P) (hn : top P 9 = n + 1) : q_C l K L y_D_repeated b_D_repeated 3 (some .int) 9 [.ref x, vi j] σ (fun r σ' => (∃ (M : Nat) (F : Nat → Nat → Int) (d : Nat → Nat) (re : Nat), r = some (vi ((n : Int) - d 0)) ∧ heR σ' (x + 2 + 177 * j) P n M F d re) ∧ src σ' (x + 2 + 177 * j) P ∧ (∀ q, (q < (x + 2 + 177 * j) ∨ (x + 2 + 177 * j) + 177 ≤ q) → (q ≤ x + 356 ∨ x + 447 ≤ q) → σ' q = σ q)) := by
  have hDL := hD
  obtain ⟨hD0, ⟨dg', hdg1, hdg2⟩, hHe, hbe, hqu, htx⟩ := hD
  have hH := hHe j hj
  have hb0 := hbe.1
  have hpt : ptL L (x + 356 + 25) := hbe.2.2.1
  have hsn := hi.1.pn hn
  have hdeg := hsn.2.2.2.2.1
  have hn8 := hsn.1
  refine q_start [some (.ref x), some (vi j), none] (by decide) (Nat.le_of_ble_eq_true rfl) (fun q h => h) ?_
  refine q_aload_n d_D_repeated_0 rfl ?_
  refine q_iload_n d_D_repeated_1 rfl ?_
  refine q_callV (As := [vi j]) (q_D_checkPolynomial l K L σ x (by omega)) w_cd_D_checkPolynomial w_ini_D w_ml_D_37 w_im_D_checkPolynomial w_se_D_checkPolynomial hD0 rfl hd_D_checkPolynomial rfl (Nat.le_of_ble_eq_true rfl) d_D_repeated_2 (by decide) (by decide) (fun v σ9 hp => ?_)
  obtain ⟨rfl, hσ⟩ := hp
  rw [hσ]
  clear hσ σ9
  refine q_aload_n d_D_repeated_5 rfl ?_
  refine q_iload_n d_D_repeated_6 rfl ?_
  refine q_callV (As := [vi j]) (q_D_some l K σ hDL hj (dg := (n : Int)) hdeg (by omega)) w_cd_D_some w_ini_D w_ml_D_62 w_im_D_some w_se_D_some hD0 rfl hd_D_some rfl (Nat.le_of_ble_eq_true rfl) d_D_repeated_7 (by decide) (by decide) (fun v σ9 hp => ?_)
  obtain ⟨rfl, hσ⟩ := hp
  rw [hσ]
  clear hσ σ9
  refine q_ast_n_2 d_D_repeated_10 (by decide) rfl ?_
  refine q_aload_n d_D_repeated_11 rfl ?_
  refine q_aload_n d_D_repeated_12 rfl ?_
  refine q_gr hD0 pc_D 1 (by decide) w_fl_D_19 rfl (by rfl) d_D_repeated_13 ?_
  refine q_callV (As := [.ref (x + 356)]) (al_He_prepare l K hH hbe (by omega) hi hn) w_cd_He_prepare w_ini_He w_ml_D_66 w_im_He_prepare w_se_He_prepare hH.1 rfl hd_He_prepare rfl (Nat.le_of_ble_eq_true rfl) d_D_repeated_16 (by decide) (by decide) (fun v σ1 hp => ?_)
  obtain ⟨rfl, k1, ⟨M, F, d, re, k2⟩, k3⟩ := hp
  have hg := k2.1.1
  have hcn := hg.cnt
  have hc5 := k2.1.2.2.2.1
  refine q_aload_n d_D_repeated_19 rfl ?_
  refine q_gi hH.1 pc_He 6 (by decide) w_fl_D_73 rfl (by rfl) d_D_repeated_20 ?_
  refine q_topi k2.1.2.2.2.2.1 ?_
  exact q_iret rfl (⟨⟨M, F, d, re, rfl, k2⟩, k1, k3⟩) d_D_repeated_23
set_option maxHeartbeats 4000000 in
set_option maxRecDepth 100000 in
theorem q_D_between (l : Launch) (K : pw_K) {L : q_L} {σ : q_S} {x j n : Nat} {P : Nat → Int} (hD : dL L x) (hj : j < 2) (hi : hin σ (x + 2 + 177 * j) P) (hn : top P 9 = n + 1) {u v : Int} {ee f : Nat} (hu : -9223372036854775808 ≤ u ∧ u < 9223372036854775808) (hv : -9223372036854775808 ≤ v ∧ v < 9223372036854775808) (hee : ee ≤ 62) (hf : f ≤ 62) : q_C l K L y_D_between b_D_between 11 (some .int) 9 [.ref x, vi j, vl u, vi ee, vl v, vi f] σ (fun r σ' => (∃ (M : Nat) (F : Nat → Nat → Int) (d : Nat → Nat) (re : Nat), r = some (vi (max 0 (cN F d M (dy v (f : Int)) - cN F d M (dy u (ee : Int))))) ∧ heR σ' (x + 2 + 177 * j) P n M F d re) ∧ src σ' (x + 2 + 177 * j) P ∧ (∀ q, (q < (x + 2 + 177 * j) ∨ (x + 2 + 177 * j) + 177 ≤ q) → (q ≤ x + 356 ∨ x + 447 ≤ q) → σ' q = σ q)) := by
  have hDL := hD
  obtain ⟨hD0, ⟨dg', hdg1, hdg2⟩, hHe, hbe, hqu, htx⟩ := hD
  have hH := hHe j hj
  have hb0 := hbe.1
  have hpt : ptL L (x + 356 + 25) := hbe.2.2.1
  have hsn := hi.1.pn hn
  have hdeg := hsn.2.2.2.2.1
  have hn8 := hsn.1
  have bd : ∀ w : Int, -9223372036854775808 ≤ w ∧ w < 9223372036854775808 → ∀ k : Nat, (ptX w (k : Int)).natAbs ≤ 2 ^ 605 := fun w hw k => by
    rw [ptX_nn]
    exact Nat.le_trans (show w.natAbs ≤ 2 ^ 63 by omega) (Nat.pow_le_pow_right (by omega) (by omega))
  have bd : hid _ := bd
  refine q_start [some (.ref x), some (vi j), some (vl u), none, some (vi ee), some (vl v), none, some (vi f), none, none, none] (by decide) (Nat.le_of_ble_eq_true rfl) (fun q h => h) ?_
  refine q_aload_n d_D_between_0 rfl ?_
  refine q_iload_n d_D_between_1 rfl ?_
  refine q_callV (As := [vi j]) (q_D_checkPolynomial l K L σ x (by omega)) w_cd_D_checkPolynomial w_ini_D w_ml_D_37 w_im_D_checkPolynomial w_se_D_checkPolynomial hD0 rfl hd_D_checkPolynomial rfl (Nat.le_of_ble_eq_true rfl) d_D_between_2 (by decide) (by decide) (fun v σ9 hp => ?_)
  obtain ⟨rfl, hσ⟩ := hp
  rw [hσ]
  clear hσ σ9
  refine q_aload_n d_D_between_5 rfl ?_
  refine q_iload d_D_between_6 rfl ?_
  refine q_callV (As := [vi ee]) (q_D_checkExponent l K L σ x (by omega)) w_cd_D_checkExponent w_ini_D w_ml_D_76 w_im_D_checkExponent w_se_D_checkExponent hD0 rfl hd_D_checkExponent rfl (Nat.le_of_ble_eq_true rfl) d_D_between_8 (by decide) (by decide) (fun v σ9 hp => ?_)
  obtain ⟨rfl, hσ⟩ := hp
  rw [hσ]
  clear hσ σ9
  refine q_aload_n d_D_between_11 rfl ?_
  refine q_iload d_D_between_12 rfl ?_
  refine q_callV (As := [vi f]) (q_D_checkExponent l K L σ x (by omega)) w_cd_D_checkExponent w_ini_D w_ml_D_76 w_im_D_checkExponent w_se_D_checkExponent hD0 rfl hd_D_checkExponent rfl (Nat.le_of_ble_eq_true rfl) d_D_between_14 (by decide) (by decide) (fun v σ9 hp => ?_)
  obtain ⟨rfl, hσ⟩ := hp
  rw [hσ]
  clear hσ σ9
  refine q_aload_n d_D_between_17 rfl ?_
  refine q_iload_n d_D_between_18 rfl ?_
  refine q_callV (As := [vi j]) (q_D_some l K σ hDL hj (dg := (n : Int)) hdeg (by omega)) w_cd_D_some w_ini_D w_ml_D_62 w_im_D_some w_se_D_some hD0 rfl hd_D_some rfl (Nat.le_of_ble_eq_true rfl) d_D_between_19 (by decide) (by decide) (fun v σ9 hp => ?_)
  obtain ⟨rfl, hσ⟩ := hp
  rw [hσ]
  clear hσ σ9
  refine q_ast_8 d_D_between_22 (by decide) rfl ?_
  refine q_aload d_D_between_24 rfl ?_
  refine q_aload_n d_D_between_26 rfl ?_
  refine q_gr hD0 pc_D 1 (by decide) w_fl_D_19 rfl (by rfl) d_D_between_27 ?_
  refine q_callV (As := [.ref (x + 356)]) (al_He_prepare l K hH hbe (by omega) hi hn) w_cd_He_prepare w_ini_He w_ml_D_66 w_im_He_prepare w_se_He_prepare hH.1 rfl hd_He_prepare rfl (Nat.le_of_ble_eq_true rfl) d_D_between_30 (by decide) (by decide) (fun v σ1 hp => ?_)
  obtain ⟨rfl, k1, ⟨M, F, d, re, k2⟩, k3⟩ := hp
  have hg := k2.1.1
  have hcn := hg.cnt
  have hc5 := k2.1.2.2.2.1
  refine q_aload_n d_D_between_33 rfl ?_
  refine q_gr hD0 pc_D 1 (by decide) w_fl_D_19 rfl (by rfl) d_D_between_34 ?_
  refine q_gr hb0 pc_Be 12 (by decide) w_fl_D_79 rfl (by rfl) d_D_between_37 ?_
  refine q_lload_n d_D_between_40 rfl ?_
  refine q_iload d_D_between_41 rfl ?_
  refine q_callV (As := [vl u, vi ee]) (c_Pt_placeLong l K σ1 hpt (by omega)) w_cd_Pt_placeLong w_ini_Pt w_ml_D_83 w_im_Pt_placeLong w_se_Pt_placeLong hpt.1 rfl hd_Pt_placeLong rfl (Nat.le_of_ble_eq_true rfl) d_D_between_43 (by decide) (by decide) (fun v σ2 hp => ?_)
  obtain ⟨rfl, k4, k5, k6⟩ := hp
  refine q_aload d_D_between_46 rfl ?_
  refine q_aload_n d_D_between_48 rfl ?_
  refine q_gr hD0 pc_D 1 (by decide) w_fl_D_19 rfl (by rfl) d_D_between_49 ?_
  refine q_gr hb0 pc_Be 12 (by decide) w_fl_D_79 rfl (by rfl) d_D_between_52 ?_
  refine q_aload_n d_D_between_55 rfl ?_
  refine q_gr hD0 pc_D 1 (by decide) w_fl_D_19 rfl (by rfl) d_D_between_56 ?_
  refine q_callV (As := [.ref (x + 356 + 25), .ref (x + 356)]) (al_He_countUpTo l K (z := u) (lev := (ee : Int)) hH hbe hpt (by omega) rfl hg (k2.1.2.1.mv (by rw [k6 _ (by omega) (by omega) (by omega)]) (fun q h1 h2 => k6 q (by omega) (by omega) (by omega))) (by rw [k6 _ (by omega) (by omega) (by omega)]; exact k2.1.2.2.2.2.2.1) (by rw [ptX_nn]; exact k4) (by rw [ptE_nn]; exact k5) (bd u hu ee) (by rw [ptE_nn]; omega)) w_cd_He_countUpTo w_ini_He w_ml_D_98 w_im_He_countUpTo w_se_He_countUpTo hH.1 rfl hd_He_countUpTo rfl (Nat.le_of_ble_eq_true rfl) d_D_between_59 (by decide) (by decide) (fun v σ3 hp => ?_)
  obtain ⟨rfl, k7, k8⟩ := hp
  have fr3 : ∀ q, (q ≤ x + 356 ∨ x + 447 ≤ q) → q ≠ (x + 2 + 177 * j) + 22 → σ3 q = σ1 q := fun q h1 h2 => by rw [k8 q (by omega) h2, k6 q (by omega) (by omega) (by omega)]
  have k7b : σ3 ((x + 2 + 177 * j) + 22) 1 = σ1 ((x + 2 + 177 * j) + 22) 1 := by rw [k7, k6 _ (by omega) (by omega) (by omega)]
  obtain ⟨sN, hsN⟩ := hg.rs
  have rn := fun y => hsN.rts.2.2 y
  have rn2 := fun y => (nm_N (lk F d 0) (cN F d M) y).1
  refine q_ist_9 d_D_between_62 (by decide) rfl ?_
  refine q_aload_n d_D_between_64 rfl ?_
  refine q_gr hD0 pc_D 1 (by decide) w_fl_D_19 rfl (by rfl) d_D_between_65 ?_
  refine q_gr hb0 pc_Be 12 (by decide) w_fl_D_79 rfl (by rfl) d_D_between_68 ?_
  refine q_lload d_D_between_71 rfl ?_
  refine q_iload d_D_between_73 rfl ?_
  refine q_callV (As := [vl v, vi f]) (c_Pt_placeLong l K σ3 hpt (by omega)) w_cd_Pt_placeLong w_ini_Pt w_ml_D_83 w_im_Pt_placeLong w_se_Pt_placeLong hpt.1 rfl hd_Pt_placeLong rfl (Nat.le_of_ble_eq_true rfl) d_D_between_75 (by decide) (by decide) (fun v σ4 hp => ?_)
  obtain ⟨rfl, k9, k10, k11⟩ := hp
  refine q_aload d_D_between_78 rfl ?_
  refine q_aload_n d_D_between_80 rfl ?_
  refine q_gr hD0 pc_D 1 (by decide) w_fl_D_19 rfl (by rfl) d_D_between_81 ?_
  refine q_gr hb0 pc_Be 12 (by decide) w_fl_D_79 rfl (by rfl) d_D_between_84 ?_
  refine q_aload_n d_D_between_87 rfl ?_
  refine q_gr hD0 pc_D 1 (by decide) w_fl_D_19 rfl (by rfl) d_D_between_88 ?_
  refine q_callV (As := [.ref (x + 356 + 25), .ref (x + 356)]) (al_He_countUpTo l K (z := v) (lev := (f : Int)) hH hbe hpt (by omega) rfl hg (k2.1.2.1.mv (by rw [k11 _ (by omega) (by omega) (by omega)]; exact k7b) (fun q h1 h2 => by rw [k11 q (by omega) (by omega) (by omega), fr3 q (by omega) (by omega)])) (by rw [k11 _ (by omega) (by omega) (by omega), fr3 _ (by omega) (by omega)]; exact k2.1.2.2.2.2.2.1) (by rw [ptX_nn]; exact k9) (by rw [ptE_nn]; exact k10) (bd v hv f) (by rw [ptE_nn]; omega)) w_cd_He_countUpTo w_ini_He w_ml_D_98 w_im_He_countUpTo w_se_He_countUpTo hH.1 rfl hd_He_countUpTo rfl (Nat.le_of_ble_eq_true rfl) d_D_between_91 (by decide) (by decide) (fun v σ5 hp => ?_)
  obtain ⟨rfl, k12, k13⟩ := hp
  have fr5 : ∀ q, (q ≤ x + 356 ∨ x + 447 ≤ q) → q ≠ (x + 2 + 177 * j) + 22 → σ5 q = σ1 q := fun q h1 h2 => by rw [k13 q (by omega) h2, k11 q (by omega) (by omega) (by omega), fr3 q h1 h2]
  have k12b : σ5 ((x + 2 + 177 * j) + 22) 1 = σ1 ((x + 2 + 177 * j) + 22) 1 := by rw [k12, k11 _ (by omega) (by omega) (by omega)]; exact k7b
  have b1 := rn (dy u (ee : Int))
  have b2 := rn (dy v (f : Int))
  have b3 := rn2 (dy u (ee : Int))
  have b4 := rn2 (dy v (f : Int))
  refine q_ist_10 d_D_between_94 (by decide) rfl ?_
  refine q_iconst d_D_between_96 rfl ?_
  refine q_iload d_D_between_97 rfl ?_
  refine q_iload d_D_between_99 rfl ?_
  refine q_isub d_D_between_101 ?_
  refine q_mmax (by omega) (by omega) w_ml_D_102 d_D_between_102 (by decide) (Nat.le_of_ble_eq_true rfl) ?_
  exact q_iret rfl (⟨⟨M, F, d, re, rfl, k2.mv (fr5 _ (by omega) (by omega)) k12b (fun q h1 h2 => fr5 q (by omega) (by omega))⟩, k1.mv (fun q h1 h2 => fr5 q (by omega) (by omega)), fun q h1 h2 => by rw [fr5 q h2 (by omega)]; exact k3 q h1 h2⟩) d_D_between_105
theorem hin.rdy {σ : q_S} {a : Nat} {P : Nat → Int} {n M re : Nat} {F : Nat → Nat → Int} {d : Nat → Nat} (hs : src σ a P) (hn : top P 9 = n + 1) (h : heR σ a P n M F d re) : hin σ a P := ⟨hs, Or.inr ⟨n, M, F, d, re, hn, h⟩⟩
set_option maxHeartbeats 4000000 in
set_option maxRecDepth 100000 in
theorem q_D_side (l : Launch) (K : pw_K) {L : q_L} {σ : q_S} {x j n : Nat} {P : Nat → Int} (hD : dL L x) (hj : j < 2) (hi : hin σ (x + 2 + 177 * j) P) (hn : top P 9 = n + 1) {i : Nat} {u : Int} {ee : Nat} (hu : -9223372036854775808 ≤ u ∧ u < 9223372036854775808) (hee : ee ≤ 62) (hok : ∀ (σ1 : q_S) (M : Nat) (F : Nat → Nat → Int) (d : Nat → Nat) (re : Nat), heR σ1 (x + 2 + 177 * j) P n M F d re → (i : Int) < vlo F d M - vhi F d M) : q_C l K L y_D_side b_D_side 7 (some .int) 9 [.ref x, vi j, vi i, vl u, vi ee] σ (fun r σ' => (∃ (M : Nat) (F : Nat → Nat → Int) (d : Nat → Nat) (re : Nat), r = some (vi (sdo (lk F d 0) (cN F d M) i (dy u (ee : Int)))) ∧ heR σ' (x + 2 + 177 * j) P n M F d re) ∧ src σ' (x + 2 + 177 * j) P ∧ (∀ q, (q < (x + 2 + 177 * j) ∨ (x + 2 + 177 * j) + 177 ≤ q) → (q ≤ x + 356 ∨ x + 447 ≤ q) → σ' q = σ q)) := by
  have hDL := hD
  obtain ⟨hD0, ⟨dg', hdg1, hdg2⟩, hHe, hbe, hqu, htx⟩ := hD
  have hH := hHe j hj
  have hb0 := hbe.1
  have hpt : ptL L (x + 356 + 25) := hbe.2.2.1
  have hsn := hi.1.pn hn
  have hdeg := hsn.2.2.2.2.1
  have hn8 := hsn.1
  have bd : hid ((ptX u (ee : Int)).natAbs ≤ 2 ^ 605) := by
    rw [ptX_nn]
    exact Nat.le_trans (show u.natAbs ≤ 2 ^ 63 by omega) (Nat.pow_le_pow_right (by omega) (by omega))
  refine q_start [some (.ref x), some (vi j), some (vi i), some (vl u), none, some (vi ee), none] (by decide) (Nat.le_of_ble_eq_true rfl) (fun q h => h) ?_
  refine q_aload_n d_D_side_0 rfl ?_
  refine q_iload_n d_D_side_1 rfl ?_
  refine q_callV (As := [vi j]) (q_D_checkPolynomial l K L σ x (by omega)) w_cd_D_checkPolynomial w_ini_D w_ml_D_37 w_im_D_checkPolynomial w_se_D_checkPolynomial hD0 rfl hd_D_checkPolynomial rfl (Nat.le_of_ble_eq_true rfl) d_D_side_2 (by decide) (by decide) (fun v σ9 hp => ?_)
  obtain ⟨rfl, hσ⟩ := hp
  rw [hσ]
  clear hσ σ9
  refine q_aload_n d_D_side_5 rfl ?_
  refine q_iload d_D_side_6 rfl ?_
  refine q_callV (As := [vi ee]) (q_D_checkExponent l K L σ x (by omega)) w_cd_D_checkExponent w_ini_D w_ml_D_76 w_im_D_checkExponent w_se_D_checkExponent hD0 rfl hd_D_checkExponent rfl (Nat.le_of_ble_eq_true rfl) d_D_side_8 (by decide) (by decide) (fun v σ9 hp => ?_)
  obtain ⟨rfl, hσ⟩ := hp
  rw [hσ]
  clear hσ σ9
  refine q_aload_n d_D_side_11 rfl ?_
  refine q_iload_n d_D_side_12 rfl ?_
  refine q_callV (As := [vi j]) (q_D_some l K σ hDL hj (dg := (n : Int)) hdeg (by omega)) w_cd_D_some w_ini_D w_ml_D_62 w_im_D_some w_se_D_some hD0 rfl hd_D_some rfl (Nat.le_of_ble_eq_true rfl) d_D_side_13 (by decide) (by decide) (fun v σ9 hp => ?_)
  obtain ⟨rfl, hσ⟩ := hp
  rw [hσ]
  clear hσ σ9
  refine q_ast_6 d_D_side_16 (by decide) rfl ?_
  refine q_aload d_D_side_18 rfl ?_
  refine q_aload_n d_D_side_20 rfl ?_
  refine q_gr hD0 pc_D 1 (by decide) w_fl_D_19 rfl (by rfl) d_D_side_21 ?_
  refine q_callV (As := [.ref (x + 356)]) (al_He_prepare l K hH hbe (by omega) hi hn) w_cd_He_prepare w_ini_He w_ml_D_66 w_im_He_prepare w_se_He_prepare hH.1 rfl hd_He_prepare rfl (Nat.le_of_ble_eq_true rfl) d_D_side_24 (by decide) (by decide) (fun v σ1 hp => ?_)
  obtain ⟨rfl, k1, ⟨M, F, d, re, k2⟩, k3⟩ := hp
  have hg := k2.1.1
  have hcn := hg.cnt
  have hc5 := k2.1.2.2.2.1
  refine q_aload_n d_D_side_27 rfl ?_
  refine q_aload d_D_side_28 rfl ?_
  refine q_iload_n d_D_side_30 rfl ?_
  refine q_callV (As := [.ref (x + 2 + 177 * j), vi i]) (q_D_checkRoot l K (n := vlo F d M - vhi F d M) hH hc5 (by omega) ⟨by omega, hok _ _ _ _ _ k2⟩) w_cd_D_checkRoot w_ini_D w_ml_D_108 w_im_D_checkRoot w_se_D_checkRoot hD0 rfl hd_D_checkRoot rfl (Nat.le_of_ble_eq_true rfl) d_D_side_31 (by decide) (by decide) (fun v σ9 hp => ?_)
  obtain ⟨rfl, hσ⟩ := hp
  rw [hσ]
  clear hσ σ9
  have hlt := hok _ _ _ _ _ k2
  refine q_aload_n d_D_side_34 rfl ?_
  refine q_gr hD0 pc_D 1 (by decide) w_fl_D_19 rfl (by rfl) d_D_side_35 ?_
  refine q_gr hb0 pc_Be 12 (by decide) w_fl_D_79 rfl (by rfl) d_D_side_38 ?_
  refine q_lload_n d_D_side_41 rfl ?_
  refine q_iload d_D_side_42 rfl ?_
  refine q_callV (As := [vl u, vi ee]) (c_Pt_placeLong l K σ1 hpt (by omega)) w_cd_Pt_placeLong w_ini_Pt w_ml_D_83 w_im_Pt_placeLong w_se_Pt_placeLong hpt.1 rfl hd_Pt_placeLong rfl (Nat.le_of_ble_eq_true rfl) d_D_side_44 (by decide) (by decide) (fun v σ2 hp => ?_)
  obtain ⟨rfl, k4, k5, k6⟩ := hp
  refine q_aload d_D_side_47 rfl ?_
  refine q_iload_n d_D_side_49 rfl ?_
  refine q_aload_n d_D_side_50 rfl ?_
  refine q_gr hD0 pc_D 1 (by decide) w_fl_D_19 rfl (by rfl) d_D_side_51 ?_
  refine q_gr hb0 pc_Be 12 (by decide) w_fl_D_79 rfl (by rfl) d_D_side_54 ?_
  refine q_aload_n d_D_side_57 rfl ?_
  refine q_gr hD0 pc_D 1 (by decide) w_fl_D_19 rfl (by rfl) d_D_side_58 ?_
  refine q_callV (As := [vi i, .ref (x + 356 + 25), .ref (x + 356)]) (al_He_sideOf l K (z := u) (lev := (ee : Int)) (i := (i : Int)) hH hbe hpt (by omega) rfl hg (k2.1.2.1.mv (by rw [k6 _ (by omega) (by omega) (by omega)]) (fun q h1 h2 => k6 q (by omega) (by omega) (by omega))) (by rw [k6 _ (by omega) (by omega) (by omega)]; exact k2.1.2.2.2.2.2.1) (by rw [ptX_nn]; exact k4) (by rw [ptE_nn]; exact k5) bd (by rw [ptE_nn]; omega) (by omega)) w_cd_He_sideOf w_ini_He w_ml_D_124 w_im_He_sideOf w_se_He_sideOf hH.1 rfl hd_He_sideOf rfl (Nat.le_of_ble_eq_true rfl) d_D_side_61 (by decide) (by decide) (fun v σ3 hp => ?_)
  obtain ⟨rfl, k7, k8⟩ := hp
  have fr3 : ∀ q, (q ≤ x + 356 ∨ x + 447 ≤ q) → q ≠ (x + 2 + 177 * j) + 22 → σ3 q = σ1 q := fun q h1 h2 => by rw [k8 q (by omega) h2, k6 q (by omega) (by omega) (by omega)]
  have k7b : σ3 ((x + 2 + 177 * j) + 22) 1 = σ1 ((x + 2 + 177 * j) + 22) 1 := by rw [k7, k6 _ (by omega) (by omega) (by omega)]
  exact q_iret rfl (⟨⟨M, F, d, re, rfl, k2.mv (fr3 _ (by omega) (by omega)) k7b (fun q h1 h2 => fr3 q (by omega) (by omega))⟩, k1.mv (fun q h1 h2 => fr3 q (by omega) (by omega)), fun q h1 h2 => by rw [fr3 q h2 (by omega)]; exact k3 q h1 h2⟩) d_D_side_64
