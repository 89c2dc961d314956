/-! THE DESK: multiple, signAt, order, common -/
theorem heR.mvc {σ σ' : q_S} {a i n M re : Nat} {P : Nat → Int} {F : Nat → Nat → Int} {d : Nat → Nat} {z lev ls x : Int} (h : heR σ a P n M F d re) (hca : cat σ a i F d M z lev ls x) (hi : i < 8) (hic : (i : Int) < vlo F d M - vhi F d M) (e0 : σ' a = σ a) (e1 : σ' (a + 22) 1 = σ (a + 22) 1) (e : ∀ q, a + 22 < q → q < a + 177 → q ≠ a + 153 + 3 * i + 1 → q ≠ a + 153 + 3 * i + 2 → σ' q = σ q) (hz : nV σ' (a + 153 + 3 * i + 1) 48 z) : heR σ' a P n M F d re ∧ cat σ' a i F d M z lev ls x := by
  obtain ⟨d1, d2, d3, d4, d5, d6, d7, d8, d9⟩ := hca
  have fR : σ' (a + 153 + 3 * i) = σ (a + 153 + 3 * i) := e _ (by omega) (by omega) (by omega) (by omega)
  have hc : cat σ' a i F d M z lev ls x := ⟨hz, by rw [fR]; exact d2, by rw [fR]; exact d3, by rw [fR]; exact d4, by rw [fR]; exact d5, d6, d7, d8, d9⟩
  refine ⟨⟨h.1.mv e0 e1 (fun q h1 h2 => e q h1 (by omega) (by omega) (by omega)), fun k hk => ?_⟩, hc⟩
  by_cases hki : k = i
  · subst hki; exact Or.inr ⟨hic, _, _, _, _, hc⟩
  · rcases h.2 k hk with h1 | ⟨h1, h2⟩
    · left; rw [e _ (by omega) (by omega) (by omega) (by omega)]; exact h1
    · exact Or.inr ⟨h1, h2.mv (fun q a1 a2 => e q (by omega) (by omega) (by omega) (by omega))⟩
theorem sok_sb : ((List.range 9).all fun m => (List.range 9).all fun n => !(Nat.ble 1 m && Nat.ble 1 n) || sokB m n 35) = true := by decide +kernel
theorem sok_s (m : Nat) (h1 : m < 9) (h2 : 1 ≤ m) (n : Nat) (h3 : n < 9) (h4 : 1 ≤ n) : sok m n 35 := by
  have a1 := List.all_eq_true.1 sok_sb m (List.mem_range.2 h1)
  have a3 := List.all_eq_true.1 a1 n (List.mem_range.2 h3)
  rw [Bool.or_eq_true] at a3
  rcases a3 with a3 | a3
  · have : (Nat.ble 1 m && Nat.ble 1 n) = true := by
      rw [Bool.and_eq_true]
      exact ⟨Nat.ble_eq_true_of_le h2, Nat.ble_eq_true_of_le h4⟩
    rw [this] at a3
    exact absurd a3 (by decide)
  · exact sokB_ok a3
theorem l1_35 {P : Nat → Int} {n : Nat} (hn : n ≤ 8) (h : ∀ k, (P k).natAbs ≤ 2147483648) : l1 P (n + 1) ≤ 2 ^ 35 := by
  have h1 := l1_le (n := n + 1) (fun k _ => h k)
  have h2 : (n + 1) * 2147483648 ≤ 9 * 2147483648 := Nat.mul_le_mul_right _ (by omega)
  have : (2 : Nat) ^ 35 = 34359738368 := by decide
  omega
/-- k is the multiplicity, as the class finds it -/
def mspec (P : Nat → Int) (n : Nat) (F : Nat → Nat → Int) (d : Nat → Nat) (M : Nat) (i k : Nat) : Prop := 1 ≤ k ∧ k ≤ n - d 0 + 1 ∧ (∀ t, 1 ≤ t → t < k → vz (rb (lk F d 0) (cN F d M) B0 (i : Int)) (ev (drv P t) (n - t + 1))) ∧ (k ≤ n - d 0 → nz (rb (lk F d 0) (cN F d M) B0 (i : Int)) (ev (drv P k) (n - k + 1)))
set_option maxHeartbeats 4000000 in
set_option maxRecDepth 100000 in
theorem q_D_multiple (l : Launch) (K : pw_K) {L : q_L} {σ : q_S} {x j n : Nat} {P : Nat → Int} (hD : dL L x) (hj : j < 2) (hi : hin σ (x + 2 + 177 * j) P) (hn : top P 9 = n + 1) {i : Nat} (hok : ∀ (σ1 : q_S) (M : Nat) (F : Nat → Nat → Int) (d : Nat → Nat) (re : Nat), heR σ1 (x + 2 + 177 * j) P n M F d re → (i : Int) < vlo F d M - vhi F d M) : q_C l K L y_D_multiple b_D_multiple 4 (some .int) 9 [.ref x, vi j, vi i] σ (fun r σ' => (∃ (M : Nat) (F : Nat → Nat → Int) (d : Nat → Nat) (re : Nat), (∃ k : Nat, r = some (vi (k : Int)) ∧ mspec P n F d M i k) ∧ heR σ' (x + 2 + 177 * j) P n M F d re) ∧ src σ' (x + 2 + 177 * j) P ∧ (∀ q, (q < (x + 2 + 177 * j) ∨ (x + 2 + 177 * j) + 177 ≤ q) → (q ≤ x + 356 ∨ x + 612 ≤ q) → σ' q = σ q)) := by
  have hDL := hD
  obtain ⟨hD0, ⟨dg', hdg1, hdg2⟩, hHe, hbe, hqu, htx⟩ := hD
  have hH := hHe j hj
  have hb0 := hbe.1
  have hpt : ptL L (x + 356 + 25) := hbe.2.2.1
  have hsn := hi.1.pn hn
  have hdeg := hsn.2.2.2.2.1
  have hn8 := hsn.1
  have hq0 := hqu.1
  obtain ⟨-, -, -, -, ⟨rg, hrg, hrg2⟩, -⟩ := hHe j hj
  refine q_start [some (.ref x), some (vi j), some (vi i), none] (by decide) (Nat.le_of_ble_eq_true rfl) (fun q h => h) ?_
  refine q_aload_n d_D_multiple_0 rfl ?_
  refine q_iload_n d_D_multiple_1 rfl ?_
  refine q_callV (As := [vi j]) (q_D_checkPolynomial l K L σ x (by omega)) w_cd_D_checkPolynomial w_ini_D w_ml_D_37 w_im_D_checkPolynomial w_se_D_checkPolynomial hD0 rfl hd_D_checkPolynomial rfl (Nat.le_of_ble_eq_true rfl) d_D_multiple_2 (by decide) (by decide) (fun v σ9 hp => ?_)
  obtain ⟨rfl, hσ⟩ := hp
  rw [hσ]
  clear hσ σ9
  refine q_aload_n d_D_multiple_5 rfl ?_
  refine q_iload_n d_D_multiple_6 rfl ?_
  refine q_callV (As := [vi j]) (q_D_some l K σ hDL hj (dg := (n : Int)) hdeg (by omega)) w_cd_D_some w_ini_D w_ml_D_62 w_im_D_some w_se_D_some hD0 rfl hd_D_some rfl (Nat.le_of_ble_eq_true rfl) d_D_multiple_7 (by decide) (by decide) (fun v σ9 hp => ?_)
  obtain ⟨rfl, hσ⟩ := hp
  rw [hσ]
  clear hσ σ9
  refine q_ast_n_3 d_D_multiple_10 (by decide) rfl ?_
  refine q_aload_n d_D_multiple_11 rfl ?_
  refine q_aload_n d_D_multiple_12 rfl ?_
  refine q_gr hD0 pc_D 1 (by decide) w_fl_D_19 rfl (by rfl) d_D_multiple_13 ?_
  refine q_callV (As := [.ref (x + 356)]) (al_He_prepare l K hH hbe (by omega) hi hn) w_cd_He_prepare w_ini_He w_ml_D_66 w_im_He_prepare w_se_He_prepare hH.1 rfl hd_He_prepare rfl (Nat.le_of_ble_eq_true rfl) d_D_multiple_16 (by decide) (by decide) (fun v σ1 hp => ?_)
  obtain ⟨rfl, k1, ⟨M, F, d, re, k2⟩, k3⟩ := hp
  have hg := k2.1.1
  have hcn := hg.cnt
  have hc5 := k2.1.2.2.2.1
  refine q_aload_n d_D_multiple_19 rfl ?_
  refine q_aload_n d_D_multiple_20 rfl ?_
  refine q_iload_n d_D_multiple_21 rfl ?_
  refine q_callV (As := [.ref (x + 2 + 177 * j), vi i]) (q_D_checkRoot l K (n := vlo F d M - vhi F d M) hH hc5 (by omega) ⟨by omega, hok _ _ _ _ _ k2⟩) w_cd_D_checkRoot w_ini_D w_ml_D_108 w_im_D_checkRoot w_se_D_checkRoot hD0 rfl hd_D_checkRoot rfl (Nat.le_of_ble_eq_true rfl) d_D_multiple_22 (by decide) (by decide) (fun v σ9 hp => ?_)
  obtain ⟨rfl, hσ⟩ := hp
  rw [hσ]
  clear hσ σ9
  have hlt := hok _ _ _ _ _ k2
  have hi8 : i < 8 := by omega
  refine q_aload_n d_D_multiple_25 rfl ?_
  refine q_gi hH.1 pc_He 6 (by decide) w_fl_D_73 rfl (by rfl) d_D_multiple_26 ?_
  refine q_topi k2.1.2.2.2.2.1 ?_
  refine q_if_ne (tgt := 34) (by omega) d_D_multiple_29 (by decide) (fun cz => ?_) (fun cz => ?_)
  · refine q_aload_n d_D_multiple_34 rfl ?_
    refine q_iload_n d_D_multiple_35 rfl ?_
    refine q_aload_n d_D_multiple_36 rfl ?_
    refine q_gr hD0 pc_D 1 (by decide) w_fl_D_19 rfl (by rfl) d_D_multiple_37 ?_
    refine q_callV (As := [vi i, .ref (x + 356)]) (al_He_isolate l K (i := i) hH hbe (by omega) k2 hlt) w_cd_He_isolate w_ini_He w_ml_D_112 w_im_He_isolate w_se_He_isolate hH.1 rfl hd_He_isolate rfl (Nat.le_of_ble_eq_true rfl) d_D_multiple_40 (by decide) (by decide) (fun v σ2 hp => ?_)
    obtain ⟨rfl, k4, ⟨z, lev, ls, xx, hca⟩, -, k5⟩ := hp
    have hpla := hg.pla k2.1.2.2.2.2.2.2.2.2 k2.1.2.2.2.2.2.2.2.1 (i := (i : Int)) ⟨by omega, hlt⟩
    have hd1 : 1 ≤ d 0 := by omega
    have ks2 := k1.mv (fun q h1 h2 => k5 q (by omega) (by omega) (by omega))
    refine q_aload_n d_D_multiple_43 rfl ?_
    refine q_gr hD0 pc_D 2 (by decide) w_fl_D_26 rfl (by rfl) d_D_multiple_44 ?_
    refine q_aload_n d_D_multiple_47 rfl ?_
    refine q_aload_n d_D_multiple_48 rfl ?_
    refine q_gr hH.1 pc_He 3 (by decide) w_fl_D_116 rfl (by rfl) d_D_multiple_49 ?_
    refine q_iload_n d_D_multiple_52 rfl ?_
    refine q_aal (i) 6 (b := (x + 2 + 177 * j) + 153 + 3 * i) rfl hrg (by omega) (by omega) (by omega) (hrg2 _ hi8) d_D_multiple_53 ?_
    refine q_aload_n d_D_multiple_54 rfl ?_
    refine q_gr hD0 pc_D 1 (by decide) w_fl_D_19 rfl (by rfl) d_D_multiple_55 ?_
    refine q_callV (As := [.ref (x + 2 + 177 * j), .ref ((x + 2 + 177 * j) + 153 + 3 * i), .ref (x + 356)]) (c_Qu_multiplicity l K (P := P) (n := n) hqu hH hbe (by omega) (by omega) hi8 hg hpla hd1 k4.1.2.1 k4.1.2.2.2.2.1 hca (ks2.pn hn).2.2.2.2.1 (ks2.pn hn).2.2.2.2.2) w_cd_Qu_multiplicity w_ini_Qu w_ml_D_120 w_im_Qu_multiplicity w_se_Qu_multiplicity hq0 rfl hd_Qu_multiplicity rfl (Nat.le_of_ble_eq_true rfl) d_D_multiple_58 (by decide) (by decide) (fun v σ3 hp => ?_)
    obtain ⟨⟨k, rfl, m1, m2, m3, m4⟩, k6, k7⟩ := hp
    have hm := k4.mvc hca hi8 hlt (k7 _ (by omega) (by omega) (by omega) (by omega)) (by rw [k7 _ (by omega) (by omega) (by omega) (by omega)]) (fun q h1 h2 h3 h4 => k7 q (by omega) (by omega) h3 h4) k6
    exact q_iret rfl (⟨⟨M, F, d, re, ⟨k, rfl, m1, m2, m3, m4⟩, hm.1⟩, ks2.mv (fun q h1 h2 => k7 q (by omega) (by omega) (by omega) (by omega)), fun q h1 h2 => by rw [k7 q (by omega) (by omega) (by omega) (by omega), k5 q (by omega) (by omega) (by omega)]; exact k3 q h1 (by omega)⟩) d_D_multiple_61
  · refine q_iconst d_D_multiple_32 rfl ?_
    exact q_iret rfl (⟨⟨M, F, d, re, ⟨1, rfl, by omega, by omega, fun t h1 h2 => by omega, fun h1 => by omega⟩, k2⟩, k1, fun q h1 h2 => k3 q h1 (by omega)⟩) d_D_multiple_33
set_option maxHeartbeats 4000000 in
set_option maxRecDepth 100000 in
theorem q_D_signAt (l : Launch) (K : pw_K) {L : q_L} {σ : q_S} {x j n : Nat} {P : Nat → Int} (hD : dL L x) (hj : j < 2) (hi : hin σ (x + 2 + 177 * j) P) (hn : top P 9 = n + 1) {i n2 : Nat} {P2 : Nat → Int} (hi2 : hin σ (x + 2 + 177 * (1 - j)) P2) (hn2 : top P2 9 = n2 + 1) (hok : ∀ (σ1 : q_S) (M : Nat) (F : Nat → Nat → Int) (d : Nat → Nat) (re : Nat), heR σ1 (x + 2 + 177 * j) P n M F d re → (i : Int) < vlo F d M - vhi F d M) : q_C l K L y_D_signAt b_D_signAt 5 (some .int) 9 [.ref x, vi j, vi i] σ (fun r σ' => (∃ (M : Nat) (F : Nat → Nat → Int) (d : Nat → Nat) (re : Nat), (∃ s0 : Int, r = some (vi s0) ∧ sga (lk F d 0) (cN F d M) (i : Int) (ev P2 (n2 + 1)) s0) ∧ heR σ' (x + 2 + 177 * j) P n M F d re) ∧ src σ' (x + 2 + 177 * j) P ∧ (∀ q, (q < (x + 2 + 177 * j) ∨ (x + 2 + 177 * j) + 177 ≤ q) → (q ≤ x + 356 ∨ x + 612 ≤ q) → σ' q = σ q)) := by
  have hDL := hD
  obtain ⟨hD0, ⟨dg', hdg1, hdg2⟩, hHe, hbe, hqu, htx⟩ := hD
  have hH := hHe j hj
  have hb0 := hbe.1
  have hpt : ptL L (x + 356 + 25) := hbe.2.2.1
  have hsn := hi.1.pn hn
  have hdeg := hsn.2.2.2.2.1
  have hn8 := hsn.1
  have hq0 := hqu.1
  obtain ⟨-, -, -, -, ⟨rg, hrg, hrg2⟩, -⟩ := hHe j hj
  have hH2 := hHe (1 - j) (by omega)
  have hs2 := hi2.1
  have hsn2 := hs2.pn hn2
  have hl35 : hid _ := l1_35 hsn2.1 hsn2.2.2.2.1
  refine q_start [some (.ref x), some (vi j), some (vi i), none, none] (by decide) (Nat.le_of_ble_eq_true rfl) (fun q h => h) ?_
  refine q_aload_n d_D_signAt_0 rfl ?_
  refine q_iload_n d_D_signAt_1 rfl ?_
  refine q_callV (As := [vi j]) (q_D_checkPolynomial l K L σ x (by omega)) w_cd_D_checkPolynomial w_ini_D w_ml_D_37 w_im_D_checkPolynomial w_se_D_checkPolynomial hD0 rfl hd_D_checkPolynomial rfl (Nat.le_of_ble_eq_true rfl) d_D_signAt_2 (by decide) (by decide) (fun v σ9 hp => ?_)
  obtain ⟨rfl, hσ⟩ := hp
  rw [hσ]
  clear hσ σ9
  refine q_aload_n d_D_signAt_5 rfl ?_
  refine q_iload_n d_D_signAt_6 rfl ?_
  refine q_callV (As := [vi j]) (q_D_some l K σ hDL hj (dg := (n : Int)) hdeg (by omega)) w_cd_D_some w_ini_D w_ml_D_62 w_im_D_some w_se_D_some hD0 rfl hd_D_some rfl (Nat.le_of_ble_eq_true rfl) d_D_signAt_7 (by decide) (by decide) (fun v σ9 hp => ?_)
  obtain ⟨rfl, hσ⟩ := hp
  rw [hσ]
  clear hσ σ9
  refine q_ast_n_3 d_D_signAt_10 (by decide) rfl ?_
  refine q_aload_n d_D_signAt_11 rfl ?_
  refine q_iconst d_D_signAt_12 rfl ?_
  refine q_iload_n d_D_signAt_13 rfl ?_
  refine q_isub d_D_signAt_14 ?_
  refine q_topi (show (1 : Int) - j = ((1 - j : Nat) : Int) by omega) ?_
  refine q_callV (As := [vi ((1 - j : Nat) : Int)]) (q_D_some l K σ hDL (j := 1 - j) (by omega) (dg := (n2 : Int)) hsn2.2.2.2.2.1 (by omega)) w_cd_D_some w_ini_D w_ml_D_62 w_im_D_some w_se_D_some hD0 rfl hd_D_some rfl (Nat.le_of_ble_eq_true rfl) d_D_signAt_15 (by decide) (by decide) (fun v σ9 hp => ?_)
  obtain ⟨rfl, hσ⟩ := hp
  rw [hσ]
  clear hσ σ9
  refine q_ast_4 d_D_signAt_18 (by decide) rfl ?_
  refine q_aload_n d_D_signAt_20 rfl ?_
  refine q_aload_n d_D_signAt_21 rfl ?_
  refine q_gr hD0 pc_D 1 (by decide) w_fl_D_19 rfl (by rfl) d_D_signAt_22 ?_
  refine q_callV (As := [.ref (x + 356)]) (al_He_prepare l K hH hbe (by omega) hi hn) w_cd_He_prepare w_ini_He w_ml_D_66 w_im_He_prepare w_se_He_prepare hH.1 rfl hd_He_prepare rfl (Nat.le_of_ble_eq_true rfl) d_D_signAt_25 (by decide) (by decide) (fun v σ1 hp => ?_)
  obtain ⟨rfl, k1, ⟨M, F, d, re, k2⟩, k3⟩ := hp
  have hg := k2.1.1
  have hcn := hg.cnt
  have hc5 := k2.1.2.2.2.1
  refine q_aload_n d_D_signAt_28 rfl ?_
  refine q_aload_n d_D_signAt_29 rfl ?_
  refine q_iload_n d_D_signAt_30 rfl ?_
  refine q_callV (As := [.ref (x + 2 + 177 * j), vi i]) (q_D_checkRoot l K (n := vlo F d M - vhi F d M) hH hc5 (by omega) ⟨by omega, hok _ _ _ _ _ k2⟩) w_cd_D_checkRoot w_ini_D w_ml_D_108 w_im_D_checkRoot w_se_D_checkRoot hD0 rfl hd_D_checkRoot rfl (Nat.le_of_ble_eq_true rfl) d_D_signAt_31 (by decide) (by decide) (fun v σ9 hp => ?_)
  obtain ⟨rfl, hσ⟩ := hp
  rw [hσ]
  clear hσ σ9
  have hlt := hok _ _ _ _ _ k2
  have hi8 : i < 8 := by omega
  refine q_aload_n d_D_signAt_34 rfl ?_
  refine q_iload_n d_D_signAt_35 rfl ?_
  refine q_aload_n d_D_signAt_36 rfl ?_
  refine q_gr hD0 pc_D 1 (by decide) w_fl_D_19 rfl (by rfl) d_D_signAt_37 ?_
  refine q_callV (As := [vi i, .ref (x + 356)]) (al_He_isolate l K (i := i) hH hbe (by omega) k2 hlt) w_cd_He_isolate w_ini_He w_ml_D_112 w_im_He_isolate w_se_He_isolate hH.1 rfl hd_He_isolate rfl (Nat.le_of_ble_eq_true rfl) d_D_signAt_40 (by decide) (by decide) (fun v σ2 hp => ?_)
  obtain ⟨rfl, k4, ⟨z, lev, ls, xx, hca⟩, -, k5⟩ := hp
  have hpla := hg.pla k2.1.2.2.2.2.2.2.2.2 k2.1.2.2.2.2.2.2.2.1 (i := (i : Int)) ⟨by omega, hlt⟩
  have hd1 : 1 ≤ d 0 := by omega
  have ks2 := k1.mv (fun q h1 h2 => k5 q (by omega) (by omega) (by omega))
  refine q_aload_n d_D_signAt_43 rfl ?_
  refine q_gr hD0 pc_D 2 (by decide) w_fl_D_26 rfl (by rfl) d_D_signAt_44 ?_
  refine q_aload_n d_D_signAt_47 rfl ?_
  refine q_aload_n d_D_signAt_48 rfl ?_
  refine q_gr hH.1 pc_He 3 (by decide) w_fl_D_116 rfl (by rfl) d_D_signAt_49 ?_
  refine q_iload_n d_D_signAt_52 rfl ?_
  refine q_aal (i) 6 (b := (x + 2 + 177 * j) + 153 + 3 * i) rfl hrg (by omega) (by omega) (by omega) (hrg2 _ hi8) d_D_signAt_53 ?_
  refine q_aload d_D_signAt_54 rfl ?_
  refine q_gr hH2.1 pc_He 1 (by decide) w_fl_D_52 rfl (by rfl) d_D_signAt_56 ?_
  refine q_aload_n d_D_signAt_59 rfl ?_
  refine q_gr hD0 pc_D 1 (by decide) w_fl_D_19 rfl (by rfl) d_D_signAt_60 ?_
  have s2b : src σ2 (x + 2 + 177 * (1 - j)) P2 := hs2.mv (fun q h1 h2 => by rw [k5 q (by omega) (by omega) (by omega), k3 q (by omega) (by omega)])
  have sn2b := s2b.pn hn2
  refine q_callV (As := [.ref (x + 2 + 177 * j), .ref ((x + 2 + 177 * j) + 153 + 3 * i), .ref ((x + 2 + 177 * (1 - j)) + 2), .ref (x + 356)]) (c_Qu_signOn l K (No := 9) (e := n2) (b := 35) (G := P2) hqu hH hbe hH2.2.2.1 (by omega) (by omega) (by omega) (by omega) hi8 hg hpla hd1 k4.1.2.1 hca (by omega) sn2b.1 sn2b.2.2.2.2.1 sn2b.2.2.2.2.2 sn2b.2.2.1 sn2b.2.1 hl35 (fun h9 => sok_s (d 0) (by omega) hd1 n2 (by omega) h9) (by omega)) w_cd_Qu_signOn w_ini_Qu w_ml_D_153 w_im_Qu_signOn w_se_Qu_signOn hq0 rfl hd_Qu_signOn rfl (Nat.le_of_ble_eq_true rfl) d_D_signAt_63 (by decide) (by decide) (fun v σ3 hp => ?_)
  obtain ⟨⟨s0, rfl, hsg⟩, k6, k7⟩ := hp
  have hm := k4.mvc hca hi8 hlt (k7 _ (by omega) (by omega) (by omega) (by omega)) (by rw [k7 _ (by omega) (by omega) (by omega) (by omega)]) (fun q h1 h2 h3 h4 => k7 q (by omega) (by omega) h3 h4) k6
  exact q_iret rfl (⟨⟨M, F, d, re, ⟨s0, rfl, hsg⟩, hm.1⟩, ks2.mv (fun q h1 h2 => k7 q (by omega) (by omega) (by omega) (by omega)), fun q h1 h2 => by rw [k7 q (by omega) (by omega) (by omega) (by omega), k5 q (by omega) (by omega) (by omega)]; exact k3 q h1 (by omega)⟩) d_D_signAt_66
set_option maxHeartbeats 4000000 in
set_option maxRecDepth 100000 in
theorem q_D_common (l : Launch) (K : pw_K) {L : q_L} {σ : q_S} {x n n2 : Nat} {P P2 : Nat → Int} (hD : dL L x) (hi : hin σ (x + 2 + 177 * 0) P) (hi2 : hin σ (x + 2 + 177 * 1) P2) (hn : top P 9 = n + 1) (hn2 : top P2 9 = n2 + 1) : q_C l K L y_D_common b_D_common 3 (some .int) 9 [.ref x] σ (fun r σ' => (∃ (M : Nat) (F : Nat → Nat → Int) (d : Nat → Nat) (re M2 : Nat) (F2 : Nat → Nat → Int) (d2 : Nat → Nat) (re2 : Nat), r = some (vi (nvz (lk F d 0) (cN F d M) (lk F2 d2 0) (vlo F d M - vhi F d M).toNat)) ∧ heR σ' (x + 2 + 177 * 0) P n M F d re ∧ heR σ' (x + 2 + 177 * 1) P2 n2 M2 F2 d2 re2) ∧ src σ' (x + 2 + 177 * 0) P ∧ src σ' (x + 2 + 177 * 1) P2 ∧ (∀ q, (q < x + 2 ∨ x + 356 ≤ q) → (q ≤ x + 356 ∨ x + 612 ≤ q) → σ' q = σ q)) := by
  have hDL := hD
  obtain ⟨hD0, ⟨dg', hdg1, hdg2⟩, hHe, hbe, hqu, htx⟩ := hD
  have hH := hHe 0 (by decide)
  have hH2 := hHe 1 (by decide)
  have hb0 := hbe.1
  have hq0 := hqu.1
  have hsn := hi.1.pn hn
  have hsn2 := hi2.1.pn hn2
  refine q_start [some (.ref x), none, none] (by decide) (Nat.le_of_ble_eq_true rfl) (fun q h => h) ?_
  refine q_aload_n d_D_common_0 rfl ?_
  refine q_iconst d_D_common_1 rfl ?_
  refine q_callV (As := [vi ((0 : Nat) : Int)]) (q_D_some l K σ hDL (j := 0) (by decide) (dg := (n : Int)) hsn.2.2.2.2.1 (by omega)) w_cd_D_some w_ini_D w_ml_D_62 w_im_D_some w_se_D_some hD0 rfl hd_D_some rfl (Nat.le_of_ble_eq_true rfl) d_D_common_2 (by decide) (by decide) (fun v σ9 hp => ?_)
  obtain ⟨rfl, hσ⟩ := hp
  rw [hσ]
  clear hσ σ9
  refine q_ast_n_1 d_D_common_5 (by decide) rfl ?_
  refine q_aload_n d_D_common_6 rfl ?_
  refine q_iconst d_D_common_7 rfl ?_
  refine q_callV (As := [vi ((1 : Nat) : Int)]) (q_D_some l K σ hDL (j := 1) (by decide) (dg := (n2 : Int)) hsn2.2.2.2.2.1 (by omega)) w_cd_D_some w_ini_D w_ml_D_62 w_im_D_some w_se_D_some hD0 rfl hd_D_some rfl (Nat.le_of_ble_eq_true rfl) d_D_common_8 (by decide) (by decide) (fun v σ9 hp => ?_)
  obtain ⟨rfl, hσ⟩ := hp
  rw [hσ]
  clear hσ σ9
  refine q_ast_n_2 d_D_common_11 (by decide) rfl ?_
  refine q_aload_n d_D_common_12 rfl ?_
  refine q_aload_n d_D_common_13 rfl ?_
  refine q_gr hD0 pc_D 1 (by decide) w_fl_D_19 rfl (by rfl) d_D_common_14 ?_
  refine q_callV (As := [.ref (x + 356)]) (al_He_prepare l K hH hbe (by omega) hi hn) w_cd_He_prepare w_ini_He w_ml_D_66 w_im_He_prepare w_se_He_prepare hH.1 rfl hd_He_prepare rfl (Nat.le_of_ble_eq_true rfl) d_D_common_17 (by decide) (by decide) (fun v σ1 hp => ?_)
  obtain ⟨rfl, k1, ⟨M, F, d, re, k2⟩, k3⟩ := hp
  have hi2b : hin σ1 (x + 2 + 177 * 1) P2 := hi2.mv (fun q h1 h2 => k3 q (by omega) (by omega))
  refine q_aload_n d_D_common_20 rfl ?_
  refine q_aload_n d_D_common_21 rfl ?_
  refine q_gr hD0 pc_D 1 (by decide) w_fl_D_19 rfl (by rfl) d_D_common_22 ?_
  refine q_callV (As := [.ref (x + 356)]) (al_He_prepare l K hH2 hbe (by omega) hi2b hn2) w_cd_He_prepare w_ini_He w_ml_D_66 w_im_He_prepare w_se_He_prepare hH2.1 rfl hd_He_prepare rfl (Nat.le_of_ble_eq_true rfl) d_D_common_25 (by decide) (by decide) (fun v σ2 hp => ?_)
  obtain ⟨rfl, k4, ⟨M2, F2, d2, re2, k5⟩, k6⟩ := hp
  have k2b : heR σ2 (x + 2 + 177 * 0) P n M F d re := k2.mv (k6 _ (by omega) (by omega)) (by rw [k6 _ (by omega) (by omega)]) (fun q h1 h2 => k6 q (by omega) (by omega))
  have k1b : src σ2 (x + 2 + 177 * 0) P := k1.mv (fun q h1 h2 => k6 q (by omega) (by omega))
  have hg := k2b.1.1
  have hg2 := k5.1.1
  have hcn := hg.cnt
  have hcn2 := hg2.cnt
  have hn8 := hsn.1
  have hn8b := hsn2.1
  refine q_aload_n d_D_common_28 rfl ?_
  refine q_gr hD0 pc_D 2 (by decide) w_fl_D_26 rfl (by rfl) d_D_common_29 ?_
  refine q_aload_n d_D_common_32 rfl ?_
  refine q_aload_n d_D_common_33 rfl ?_
  refine q_aload_n d_D_common_34 rfl ?_
  refine q_gr hD0 pc_D 1 (by decide) w_fl_D_19 rfl (by rfl) d_D_common_35 ?_
  refine q_callV (As := [.ref (x + 2 + 177 * 0), .ref (x + 2 + 177 * 1), .ref (x + 356)]) (c_Qu_countShared l K hqu hH hH2 hbe (by omega) (by omega) (by omega) hg hg2 k2b.1.2.2.2.2.2.2.2.2 k2b.1.2.2.2.2.2.2.2.1 k2b.1.2.1 k5.1.2.1) w_cd_Qu_countShared w_ini_Qu w_ml_D_157 w_im_Qu_countShared w_se_Qu_countShared hq0 rfl hd_Qu_countShared rfl (Nat.le_of_ble_eq_true rfl) d_D_common_38 (by decide) (by decide) (fun v σ3 hp => ?_)
  obtain ⟨rfl, k7⟩ := hp
  exact q_iret rfl (⟨⟨M, F, d, re, M2, F2, d2, re2, rfl, k2b.mv (k7 _ (by omega) (by omega)) (by rw [k7 _ (by omega) (by omega)]) (fun q h1 h2 => k7 q (by omega) (by omega)), k5.mv (k7 _ (by omega) (by omega)) (by rw [k7 _ (by omega) (by omega)]) (fun q h1 h2 => k7 q (by omega) (by omega))⟩, k1b.mv (fun q h1 h2 => k7 q (by omega) (by omega)), k4.mv (fun q h1 h2 => k7 q (by omega) (by omega)), fun q h1 h2 => by rw [k7 q (by omega) (by omega), k6 q (by omega) (by omega), k3 q (by omega) (by omega)]⟩) d_D_common_41
set_option maxHeartbeats 4000000 in
set_option maxRecDepth 100000 in
theorem q_D_order (l : Launch) (K : pw_K) {L : q_L} {σ : q_S} {x n n2 : Nat} {P P2 : Nat → Int} (hD : dL L x) (hi : hin σ (x + 2 + 177 * 0) P) (hi2 : hin σ (x + 2 + 177 * 1) P2) (hn : top P 9 = n + 1) (hn2 : top P2 9 = n2 + 1) {i jj : Nat} (hok : ∀ (σ1 : q_S) (M : Nat) (F : Nat → Nat → Int) (d : Nat → Nat) (re : Nat), heR σ1 (x + 2 + 177 * 0) P n M F d re → (i : Int) < vlo F d M - vhi F d M) (hok2 : ∀ (σ1 : q_S) (M : Nat) (F : Nat → Nat → Int) (d : Nat → Nat) (re : Nat), heR σ1 (x + 2 + 177 * 1) P2 n2 M F d re → (jj : Int) < vlo F d M - vhi F d M) : q_C l K L y_D_order b_D_order 5 (some .int) 9 [.ref x, vi i, vi jj] σ (fun r σ' => (∃ (M : Nat) (F : Nat → Nat → Int) (d : Nat → Nat) (re M2 : Nat) (F2 : Nat → Nat → Int) (d2 : Nat → Nat) (re2 : Nat), (∃ rr : Int, r = some (vi rr) ∧ rcmp (cN F d M) (cN F2 d2 M2) (i : Int) (jj : Int) rr) ∧ heR σ' (x + 2 + 177 * 0) P n M F d re ∧ heR σ' (x + 2 + 177 * 1) P2 n2 M2 F2 d2 re2) ∧ src σ' (x + 2 + 177 * 0) P ∧ src σ' (x + 2 + 177 * 1) P2 ∧ (∀ q, (q < x + 2 ∨ x + 356 ≤ q) → (q ≤ x + 356 ∨ x + 612 ≤ q) → σ' q = σ q)) := by
  have hDL := hD
  obtain ⟨hD0, ⟨dg', hdg1, hdg2⟩, hHe, hbe, hqu, htx⟩ := hD
  have hH := hHe 0 (by decide)
  have hH2 := hHe 1 (by decide)
  have hb0 := hbe.1
  have hq0 := hqu.1
  have hsn := hi.1.pn hn
  have hsn2 := hi2.1.pn hn2
  refine q_start [some (.ref x), some (vi i), some (vi jj), none, none] (by decide) (Nat.le_of_ble_eq_true rfl) (fun q h => h) ?_
  refine q_aload_n d_D_order_0 rfl ?_
  refine q_iconst d_D_order_1 rfl ?_
  refine q_callV (As := [vi ((0 : Nat) : Int)]) (q_D_some l K σ hDL (j := 0) (by decide) (dg := (n : Int)) hsn.2.2.2.2.1 (by omega)) w_cd_D_some w_ini_D w_ml_D_62 w_im_D_some w_se_D_some hD0 rfl hd_D_some rfl (Nat.le_of_ble_eq_true rfl) d_D_order_2 (by decide) (by decide) (fun v σ9 hp => ?_)
  obtain ⟨rfl, hσ⟩ := hp
  rw [hσ]
  clear hσ σ9
  refine q_ast_n_3 d_D_order_5 (by decide) rfl ?_
  refine q_aload_n d_D_order_6 rfl ?_
  refine q_iconst d_D_order_7 rfl ?_
  refine q_callV (As := [vi ((1 : Nat) : Int)]) (q_D_some l K σ hDL (j := 1) (by decide) (dg := (n2 : Int)) hsn2.2.2.2.2.1 (by omega)) w_cd_D_some w_ini_D w_ml_D_62 w_im_D_some w_se_D_some hD0 rfl hd_D_some rfl (Nat.le_of_ble_eq_true rfl) d_D_order_8 (by decide) (by decide) (fun v σ9 hp => ?_)
  obtain ⟨rfl, hσ⟩ := hp
  rw [hσ]
  clear hσ σ9
  refine q_ast_4 d_D_order_11 (by decide) rfl ?_
  refine q_aload_n d_D_order_13 rfl ?_
  refine q_aload_n d_D_order_14 rfl ?_
  refine q_gr hD0 pc_D 1 (by decide) w_fl_D_19 rfl (by rfl) d_D_order_15 ?_
  refine q_callV (As := [.ref (x + 356)]) (al_He_prepare l K hH hbe (by omega) hi hn) w_cd_He_prepare w_ini_He w_ml_D_66 w_im_He_prepare w_se_He_prepare hH.1 rfl hd_He_prepare rfl (Nat.le_of_ble_eq_true rfl) d_D_order_18 (by decide) (by decide) (fun v σ1 hp => ?_)
  obtain ⟨rfl, k1, ⟨M, F, d, re, k2⟩, k3⟩ := hp
  have hi2b : hin σ1 (x + 2 + 177 * 1) P2 := hi2.mv (fun q h1 h2 => k3 q (by omega) (by omega))
  refine q_aload d_D_order_21 rfl ?_
  refine q_aload_n d_D_order_23 rfl ?_
  refine q_gr hD0 pc_D 1 (by decide) w_fl_D_19 rfl (by rfl) d_D_order_24 ?_
  refine q_callV (As := [.ref (x + 356)]) (al_He_prepare l K hH2 hbe (by omega) hi2b hn2) w_cd_He_prepare w_ini_He w_ml_D_66 w_im_He_prepare w_se_He_prepare hH2.1 rfl hd_He_prepare rfl (Nat.le_of_ble_eq_true rfl) d_D_order_27 (by decide) (by decide) (fun v σ2 hp => ?_)
  obtain ⟨rfl, k4, ⟨M2, F2, d2, re2, k5⟩, k6⟩ := hp
  have k2b : heR σ2 (x + 2 + 177 * 0) P n M F d re := k2.mv (k6 _ (by omega) (by omega)) (by rw [k6 _ (by omega) (by omega)]) (fun q h1 h2 => k6 q (by omega) (by omega))
  have k1b : src σ2 (x + 2 + 177 * 0) P := k1.mv (fun q h1 h2 => k6 q (by omega) (by omega))
  have hg := k2b.1.1
  have hg2 := k5.1.1
  have hcn := hg.cnt
  have hcn2 := hg2.cnt
  have hn8 := hsn.1
  have hn8b := hsn2.1
  refine q_aload_n d_D_order_30 rfl ?_
  refine q_aload_n d_D_order_31 rfl ?_
  refine q_iload_n d_D_order_32 rfl ?_
  refine q_callV (As := [.ref (x + 2 + 177 * 0), vi i]) (q_D_checkRoot l K (n := vlo F d M - vhi F d M) hH k2b.1.2.2.2.1 (by omega) ⟨by omega, hok _ _ _ _ _ k2b⟩) w_cd_D_checkRoot w_ini_D w_ml_D_108 w_im_D_checkRoot w_se_D_checkRoot hD0 rfl hd_D_checkRoot rfl (Nat.le_of_ble_eq_true rfl) d_D_order_33 (by decide) (by decide) (fun v σ9 hp => ?_)
  obtain ⟨rfl, hσ⟩ := hp
  rw [hσ]
  clear hσ σ9
  have hlt := hok _ _ _ _ _ k2b
  refine q_aload_n d_D_order_36 rfl ?_
  refine q_aload d_D_order_37 rfl ?_
  refine q_iload_n d_D_order_39 rfl ?_
  refine q_callV (As := [.ref (x + 2 + 177 * 1), vi jj]) (q_D_checkRoot l K (n := vlo F2 d2 M2 - vhi F2 d2 M2) hH2 k5.1.2.2.2.1 (by omega) ⟨by omega, hok2 _ _ _ _ _ k5⟩) w_cd_D_checkRoot w_ini_D w_ml_D_108 w_im_D_checkRoot w_se_D_checkRoot hD0 rfl hd_D_checkRoot rfl (Nat.le_of_ble_eq_true rfl) d_D_order_40 (by decide) (by decide) (fun v σ9 hp => ?_)
  obtain ⟨rfl, hσ⟩ := hp
  rw [hσ]
  clear hσ σ9
  have hlt2 := hok2 _ _ _ _ _ k5
  refine q_aload_n d_D_order_43 rfl ?_
  refine q_iload_n d_D_order_44 rfl ?_
  refine q_aload_n d_D_order_45 rfl ?_
  refine q_gr hD0 pc_D 1 (by decide) w_fl_D_19 rfl (by rfl) d_D_order_46 ?_
  refine q_callV (As := [vi i, .ref (x + 356)]) (al_He_isolate l K (i := i) hH hbe (by omega) k2b hlt) w_cd_He_isolate w_ini_He w_ml_D_112 w_im_He_isolate w_se_He_isolate hH.1 rfl hd_He_isolate rfl (Nat.le_of_ble_eq_true rfl) d_D_order_49 (by decide) (by decide) (fun v σ3 hp => ?_)
  obtain ⟨rfl, k7, ⟨z, lev, ls, xx, hca⟩, -, k8⟩ := hp
  have k5b : heR σ3 (x + 2 + 177 * 1) P2 n2 M2 F2 d2 re2 := k5.mv (k8 _ (by omega) (by omega) (by omega)) (by rw [k8 _ (by omega) (by omega) (by omega)]) (fun q h1 h2 => k8 q (by omega) (by omega) (by omega))
  have hi8 : i < 8 := by omega
  have hj8 : jj < 8 := by omega
  refine q_aload d_D_order_52 rfl ?_
  refine q_iload_n d_D_order_54 rfl ?_
  refine q_aload_n d_D_order_55 rfl ?_
  refine q_gr hD0 pc_D 1 (by decide) w_fl_D_19 rfl (by rfl) d_D_order_56 ?_
  refine q_callV (As := [vi jj, .ref (x + 356)]) (al_He_isolate l K (i := jj) hH2 hbe (by omega) k5b hlt2) w_cd_He_isolate w_ini_He w_ml_D_112 w_im_He_isolate w_se_He_isolate hH2.1 rfl hd_He_isolate rfl (Nat.le_of_ble_eq_true rfl) d_D_order_59 (by decide) (by decide) (fun v σ4 hp => ?_)
  obtain ⟨rfl, k9, ⟨z2, lev2, ls2, xx2, hcb⟩, -, k10⟩ := hp
  have k7b : heR σ4 (x + 2 + 177 * 0) P n M F d re := k7.mv (k10 _ (by omega) (by omega) (by omega)) (by rw [k10 _ (by omega) (by omega) (by omega)]) (fun q h1 h2 => k10 q (by omega) (by omega) (by omega))
  have fR : σ4 ((x + 2 + 177 * 0) + 153 + 3 * i) = σ3 ((x + 2 + 177 * 0) + 153 + 3 * i) := k10 _ (by omega) (by omega) (by omega)
  obtain ⟨c1, c2, c3, c4, c5, c6⟩ := hca
  have hca4 : cat σ4 (x + 2 + 177 * 0) i F d M z lev ls xx := ⟨c1.mv (k10 _ (by omega) (by omega) (by omega)) (k10 _ (by omega) (by omega) (by omega)), by rw [fR]; exact c2, by rw [fR]; exact c3, by rw [fR]; exact c4, by rw [fR]; exact c5, c6⟩
  have hpla := hg.pla k2b.1.2.2.2.2.2.2.2.2 k2b.1.2.2.2.2.2.2.2.1 (i := (i : Int)) ⟨by omega, hlt⟩
  refine q_aload_n d_D_order_62 rfl ?_
  refine q_gr hD0 pc_D 2 (by decide) w_fl_D_26 rfl (by rfl) d_D_order_63 ?_
  refine q_aload_n d_D_order_66 rfl ?_
  refine q_iload_n d_D_order_67 rfl ?_
  refine q_aload d_D_order_68 rfl ?_
  refine q_iload_n d_D_order_70 rfl ?_
  refine q_aload_n d_D_order_71 rfl ?_
  refine q_gr hD0 pc_D 1 (by decide) w_fl_D_19 rfl (by rfl) d_D_order_72 ?_
  refine q_callV (As := [.ref (x + 2 + 177 * 0), vi i, .ref (x + 2 + 177 * 1), vi jj, .ref (x + 356)]) (c_Qu_compare l K (i := i) (j := jj) hqu hH hH2 hbe (by omega) (by omega) (by omega) hi8 hj8 hg hg2 hpla (by omega) (by omega) k7b.1.2.1 k9.1.2.1 k7b.1.2.2.2.2.2.1 k9.1.2.2.2.2.2.1 hca4 hcb) w_cd_Qu_compare w_ini_Qu w_ml_D_149 w_im_Qu_compare w_se_Qu_compare hq0 rfl hd_Qu_compare rfl (Nat.le_of_ble_eq_true rfl) d_D_order_75 (by decide) (by decide) (fun v σ5 hp => ?_)
  obtain ⟨⟨rr, rfl, hrr⟩, k11, k12, k13, k14, k15⟩ := hp
  have m1 := k7b.mvc hca4 hi8 hlt (k15 _ (by omega) (by omega) (by omega) (by omega) (by omega) (by omega) (by omega) (by omega)) k11 (fun q h1 h2 h3 h4 => k15 q (by omega) (by omega) (by omega) (by omega) (by omega) (by omega) (by omega) (by omega)) k13
  have m2 := k9.mvc hcb hj8 hlt2 (k15 _ (by omega) (by omega) (by omega) (by omega) (by omega) (by omega) (by omega) (by omega)) k12 (fun q h1 h2 h3 h4 => k15 q (by omega) (by omega) (by omega) (by omega) (by omega) (by omega) (by omega) (by omega)) k14
  exact q_iret rfl (⟨⟨M, F, d, re, M2, F2, d2, re2, ⟨rr, rfl, hrr⟩, m1.1, m2.1⟩, k1b.mv (fun q h1 h2 => by rw [k15 q (by omega) (by omega) (by omega) (by omega) (by omega) (by omega) (by omega) (by omega), k10 q (by omega) (by omega) (by omega), k8 q (by omega) (by omega) (by omega)]), k4.mv (fun q h1 h2 => by rw [k15 q (by omega) (by omega) (by omega) (by omega) (by omega) (by omega) (by omega) (by omega), k10 q (by omega) (by omega) (by omega), k8 q (by omega) (by omega) (by omega)]), fun q h1 h2 => by rw [k15 q (by omega) (by omega) (by omega) (by omega) (by omega) (by omega) (by omega) (by omega), k10 q (by omega) (by omega) (by omega), k8 q (by omega) (by omega) (by omega), k6 q (by omega) (by omega), k3 q (by omega) (by omega)]⟩) d_D_order_78
