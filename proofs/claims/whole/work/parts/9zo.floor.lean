/-! THE DESK: floor -/
set_option maxHeartbeats 4000000 in
set_option maxRecDepth 100000 in
theorem q_D_floor2 (l : Launch) (K : pw_K) {L : q_L} {σ : q_S} {x j n : Nat} {P : Nat → Int} (hD : dL L x) (hj : j < 2) (hi : hin σ (x + 2 + 177 * j) P) (hn : top P 9 = n + 1) {i m : Nat} (hm : m ≤ 300) (hok : ∀ (σ1 : q_S) (M : Nat) (F : Nat → Nat → Int) (d : Nat → Nat) (re : Nat), heR σ1 (x + 2 + 177 * j) P n M F d re → (i : Int) < vlo F d M - vhi F d M) : q_C l K L y_D_floor b_D_floor 7 (some .int) 9 [.ref x, vi j, vi i, vi 0, vi m] σ (fun r σ' => (∃ (M : Nat) (F : Nat → Nat → Int) (d : Nat → Nat) (re : Nat), (∃ (w : Int) (nd : Nat), flo (lk F d 0) (cN F d M) (i : Int) w (m : Int) ∧ ndg w.natAbs nd ∧ r = some (vi (tln w nd : Int)) ∧ σ' (x + 612) 3 = (tln w nd : Int) ∧ (∀ k, k < tln w nd → σ' (x + 612 + 1) k = tcd w nd k)) ∧ heR σ' (x + 2 + 177 * j) P n M F d re) ∧ src σ' (x + 2 + 177 * j) P ∧ (∀ q, (q < (x + 2 + 177 * j) ∨ (x + 2 + 177 * j) + 177 ≤ q) → (q ≤ x + 356 ∨ x + 447 ≤ q) → (q < x + 612 ∨ x + 617 ≤ q) → σ' q = σ q)) := by
  have hDL := hD
  obtain ⟨hD0, ⟨dg', hdg1, hdg2⟩, hHe, hbe, hqu, htx⟩ := hD
  have hH := hHe j hj
  have hb0 := hbe.1
  have hpt : ptL L (x + 356 + 25) := hbe.2.2.1
  have hsn := hi.1.pn hn
  have hdeg := hsn.2.2.2.2.1
  have hn8 := hsn.1
  refine q_start [some (.ref x), some (vi j), some (vi i), some (vi 0), some (vi m), none, none] (by decide) (Nat.le_of_ble_eq_true rfl) (fun q h => h) ?_
  refine q_aload_n d_D_floor_0 rfl ?_
  refine q_iload_n d_D_floor_1 rfl ?_
  refine q_callV (As := [vi j]) (q_D_checkPolynomial l K L σ x (by omega)) w_cd_D_checkPolynomial w_ini_D w_ml_D_37 w_im_D_checkPolynomial w_se_D_checkPolynomial hD0 rfl hd_D_checkPolynomial rfl (Nat.le_of_ble_eq_true rfl) d_D_floor_2 (by decide) (by decide) (fun v σ9 hp => ?_)
  obtain ⟨rfl, hσ⟩ := hp
  rw [hσ]
  clear hσ σ9
  refine q_iload d_D_floor_5 rfl ?_
  refine q_if_lt (tgt := 27) (by omega) d_D_floor_7 (by decide) (fun c7 => absurd c7 (by omega)) (fun c7 => ?_)
  refine q_iload d_D_floor_10 rfl ?_
  refine q_iload_n d_D_floor_12 rfl ?_
  refine q_if_eq (tgt := 21) (by decide) d_D_floor_13 (by decide) (fun c13 => ?_) (fun c13 => absurd c13 (by decide))
  refine q_sipush d_D_floor_21 (by decide) ?_
  refine q_icmp_le (tgt := 37) (by omega) (by omega) d_D_floor_24 (by decide) (fun c24 => ?_) (fun c24 => absurd c24 (by omega))
  refine q_aload_n d_D_floor_37 rfl ?_
  refine q_iload_n d_D_floor_38 rfl ?_
  refine q_callV (As := [vi j]) (q_D_some l K σ hDL hj (dg := (n : Int)) hdeg (by omega)) w_cd_D_some w_ini_D w_ml_D_62 w_im_D_some w_se_D_some hD0 rfl hd_D_some rfl (Nat.le_of_ble_eq_true rfl) d_D_floor_39 (by decide) (by decide) (fun v σ9 hp => ?_)
  obtain ⟨rfl, hσ⟩ := hp
  rw [hσ]
  clear hσ σ9
  refine q_ast_5 d_D_floor_42 (by decide) rfl ?_
  refine q_aload d_D_floor_44 rfl ?_
  refine q_aload_n d_D_floor_46 rfl ?_
  refine q_gr hD0 pc_D 1 (by decide) w_fl_D_19 rfl (by rfl) d_D_floor_47 ?_
  refine q_callV (As := [.ref (x + 356)]) (al_He_prepare l K hH hbe (by omega) hi hn) w_cd_He_prepare w_ini_He w_ml_D_66 w_im_He_prepare w_se_He_prepare hH.1 rfl hd_He_prepare rfl (Nat.le_of_ble_eq_true rfl) d_D_floor_50 (by decide) (by decide) (fun v σ1 hp => ?_)
  obtain ⟨rfl, k1, ⟨M, F, d, re, k2⟩, k3⟩ := hp
  have hg := k2.1.1
  have hcn := hg.cnt
  have hc5 := k2.1.2.2.2.1
  refine q_aload_n d_D_floor_53 rfl ?_
  refine q_aload d_D_floor_54 rfl ?_
  refine q_iload_n d_D_floor_56 rfl ?_
  refine q_callV (As := [.ref (x + 2 + 177 * j), vi i]) (q_D_checkRoot l K (n := vlo F d M - vhi F d M) hH hc5 (by omega) ⟨by omega, hok _ _ _ _ _ k2⟩) w_cd_D_checkRoot w_ini_D w_ml_D_108 w_im_D_checkRoot w_se_D_checkRoot hD0 rfl hd_D_checkRoot rfl (Nat.le_of_ble_eq_true rfl) d_D_floor_57 (by decide) (by decide) (fun v σ9 hp => ?_)
  obtain ⟨rfl, hσ⟩ := hp
  rw [hσ]
  clear hσ σ9
  have hlt := hok _ _ _ _ _ k2
  have hi8 : i < 8 := by omega
  refine q_aload d_D_floor_60 rfl ?_
  refine q_iload_n d_D_floor_62 rfl ?_
  refine q_aload_n d_D_floor_63 rfl ?_
  refine q_gr hD0 pc_D 1 (by decide) w_fl_D_19 rfl (by rfl) d_D_floor_64 ?_
  refine q_callV (As := [vi i, .ref (x + 356)]) (al_He_isolate l K (i := i) hH hbe (by omega) k2 hlt) w_cd_He_isolate w_ini_He w_ml_D_112 w_im_He_isolate w_se_He_isolate hH.1 rfl hd_He_isolate rfl (Nat.le_of_ble_eq_true rfl) d_D_floor_67 (by decide) (by decide) (fun v σ2 hp => ?_)
  obtain ⟨rfl, k4, hcl, -, k5⟩ := hp
  have ks2 := k1.mv (fun q h1 h2 => k5 q (by omega) (by omega) (by omega))
  refine q_aload d_D_floor_70 rfl ?_
  refine q_iload_n d_D_floor_72 rfl ?_
  refine q_iload_n d_D_floor_73 rfl ?_
  refine q_if_eq (tgt := 90) (by decide) d_D_floor_74 (by decide) (fun c74 => ?_) (fun c74 => absurd c74 (by decide))
  refine q_iload d_D_floor_90 rfl ?_
  refine q_aload_n d_D_floor_92 rfl ?_
  refine q_gr hD0 pc_D 1 (by decide) w_fl_D_19 rfl (by rfl) d_D_floor_93 ?_
  refine q_callV (As := [vi i, vi (m : Int), .ref (x + 356)]) (c_He_refine l K (i := i) (tg := (m : Int)) hH hbe (by omega) hi8 hg k4.1.2.1 hcl (by omega)) w_cd_He_refine w_ini_He w_ml_D_130 w_im_He_refine w_se_He_refine hH.1 rfl hd_He_refine rfl (Nat.le_of_ble_eq_true rfl) d_D_floor_96 (by decide) (by decide) (fun v σ3 hp => ?_)
  obtain ⟨rfl, ⟨z, lev, ls, xx, hca, hx⟩, k6⟩ := hp
  have k7 := k4.cat hca hi8 hlt (k6 _ (by omega) (by omega)) (by rw [k6 _ (by omega) (by omega)]) (fun q h1 h2 h3 => k6 q (by omega) h3)
  have ks3 := ks2.mv (fun q h1 h2 => k6 q (by omega) (by omega))
  obtain ⟨c1, c2, c3, c4, c5, hcc, c7, c8, zz⟩ := hca
  have hl572 : LV (d 0) = 572 := rfl
  obtain ⟨sN, hsN⟩ := hg.rs
  have kc3 := k7.1.2.1
  
  refine q_iload_n d_D_floor_99 rfl ?_
  refine q_if_eq (tgt := 118) (by decide) d_D_floor_100 (by decide) (fun c100 => ?_) (fun c100 => absurd c100 (by decide))
  refine q_aload d_D_floor_118 rfl ?_
  refine q_iload_n d_D_floor_120 rfl ?_
  refine q_iload d_D_floor_121 rfl ?_
  refine q_aload_n d_D_floor_123 rfl ?_
  refine q_gr hD0 pc_D 1 (by decide) w_fl_D_19 rfl (by rfl) d_D_floor_124 ?_
  refine q_callV (As := [vi i, vi m, .ref (x + 356)]) (c_He_floorTwo l K (i := i) (n := (m : Int)) (u := 40) hH hbe (by omega) hi8 c1 c2 (by omega) (by omega) (zz.lim (by omega)) (by decide)) w_cd_He_floorTwo w_ini_He w_ml_D_138 w_im_He_floorTwo w_se_He_floorTwo hH.1 rfl hd_He_floorTwo rfl (Nat.le_of_ble_eq_true rfl) d_D_floor_127 (by decide) (by decide) (fun v σ4 hp => ?_)
  obtain ⟨rfl, v1, k9⟩ := hp
  have hwv := hcc.two hsN.rts (n := (m : Int)) hx
  have hwb0 := (zz.two c7 (n := (m : Int)) (by omega)).lo
  have hwb := Nat.le_trans hwb0 (Nat.pow_le_pow_right (by omega) (show (32 + (m : Int)).toNat ≤ 332 by omega))
  clear hwb0
  generalize (if 0 ≤ (m : Int) - lev then z * 2 ^ ((m : Int) - lev).toNat else z / 2 ^ (-((m : Int) - lev)).toNat) = w at *
  have hLn : nL L (x + 356 + 9) 160 := hbe.2.1 4 (by decide)
  have hnd : x + 356 + 9 + 1 < x + 612 ∨ x + 612 + 5 ≤ x + 356 + 9 := by omega
  refine q_ast_6 d_D_floor_130 (by decide) rfl ?_
  refine q_aload_n d_D_floor_132 rfl ?_
  refine q_gr hD0 pc_D 3 (by decide) w_fl_D_33 rfl (by rfl) d_D_floor_133 ?_
  refine q_aload d_D_floor_136 rfl ?_
  refine q_callV (As := [.ref (x + 356 + 9)]) (c_Tx_write l K (a := x + 612) (b := (x + 356 + 9)) htx hLn hnd v1 (tx_fit hwb).1 (tx_fit hwb).2) w_cd_Tx_write w_ini_Tx w_ml_D_141 w_im_Tx_write w_se_Tx_write htx.1 rfl hd_Tx_write rfl (Nat.le_of_ble_eq_true rfl) d_D_floor_138 (by decide) (by decide) (fun v σ5 hp => ?_)
  obtain ⟨nd, t1, rfl, t2, t3, t4⟩ := hp
  have fr5 : ∀ q, q ≤ x + 356 → σ5 q = σ3 q := fun q h1 => by rw [t4 q (by omega), k9 q (by omega) (by omega)]
  exact q_iret rfl (⟨⟨M, F, d, re, ⟨w, nd, hwv, t1, rfl, t2, t3⟩, k7.mv (fr5 _ (by omega)) (by rw [fr5 _ (by omega)]) (fun q h1 h2 => fr5 q (by omega))⟩, ks3.mv (fun q h1 h2 => fr5 q (by omega)), fun q h1 h2 h3 => by rw [t4 q (by omega), k9 q (by omega) (by omega), k6 q (by omega) (by omega), k5 q (by omega) (by omega) (by omega)]; exact k3 q h1 h2⟩) d_D_floor_141
theorem ten_pw {T : Int} {i : Nat} (h : T.natAbs ≤ 2 ^ 300) (hi : i ≤ 9) : ((T ^ i).natAbs : Int) < 2147483648 ^ 88 := by
  refine lim_up (lim_ofI (x := 2700) ?_) (by decide)
  rw [Int.natAbs_pow]
  refine Nat.le_trans (Nat.pow_le_pow_left h i) ?_
  rw [← Nat.pow_mul]
  exact Nat.pow_le_pow_right (by omega) (by omega)
theorem hf_77 {P : Nat → Int} {n i : Nat} {X U : Int} (hP : ∀ k, (P k).natAbs ≤ 2 ^ 52) (hX : X.natAbs ≤ 2 ^ 332) (hU : U.natAbs ≤ 2 ^ 332) (hi : i ≤ 8) : ((hf P n X U i).natAbs : Int) < 2147483648 ^ 77 := by
  refine lim_up (lim_ofI (x := 2379) ?_) (by decide)
  refine Nat.le_trans (hf_bd hP hX hU i) ?_
  refine Nat.le_trans (Nat.mul_le_mul (show i ≤ 2 ^ 3 by omega) (Nat.pow_le_pow_right (by omega) (show 52 + 332 * (i - 1) ≤ 2376 by omega))) ?_
  rw [← Nat.pow_add]
  exact Nat.le_refl _
set_option maxHeartbeats 4000000 in
set_option maxRecDepth 100000 in
theorem q_D_floorT (l : Launch) (K : pw_K) {L : q_L} {σ : q_S} {x j n : Nat} {P : Nat → Int} (hD : dL L x) (hj : j < 2) (hi : hin σ (x + 2 + 177 * j) P) (hn : top P 9 = n + 1) {i m : Nat} (hm : m ≤ 90) (hok : ∀ (σ1 : q_S) (M : Nat) (F : Nat → Nat → Int) (d : Nat → Nat) (re : Nat), heR σ1 (x + 2 + 177 * j) P n M F d re → (i : Int) < vlo F d M - vhi F d M) : q_C l K L y_D_floor b_D_floor 7 (some .int) 9 [.ref x, vi j, vi i, vi 1, vi m] σ (fun r σ' => (∃ (M : Nat) (F : Nat → Nat → Int) (d : Nat → Nat) (re : Nat), (∃ (w : Int) (nd : Nat), flT (lk F d 0) (cN F d M) (i : Int) w (10 ^ m) ∧ ndg w.natAbs nd ∧ r = some (vi (tln w nd : Int)) ∧ σ' (x + 612) 3 = (tln w nd : Int) ∧ (∀ k, k < tln w nd → σ' (x + 612 + 1) k = tcd w nd k)) ∧ heR σ' (x + 2 + 177 * j) P n M F d re) ∧ src σ' (x + 2 + 177 * j) P ∧ (∀ q, (q < (x + 2 + 177 * j) ∨ (x + 2 + 177 * j) + 177 ≤ q) → (q ≤ x + 356 ∨ x + 447 ≤ q) → (q < x + 612 ∨ x + 617 ≤ q) → σ' q = σ q)) := by
  have hDL := hD
  obtain ⟨hD0, ⟨dg', hdg1, hdg2⟩, hHe, hbe, hqu, htx⟩ := hD
  have hH := hHe j hj
  have hb0 := hbe.1
  have hpt : ptL L (x + 356 + 25) := hbe.2.2.1
  have hsn := hi.1.pn hn
  have hdeg := hsn.2.2.2.2.1
  have hn8 := hsn.1
  refine q_start [some (.ref x), some (vi j), some (vi i), some (vi 1), some (vi m), none, none] (by decide) (Nat.le_of_ble_eq_true rfl) (fun q h => h) ?_
  refine q_aload_n d_D_floor_0 rfl ?_
  refine q_iload_n d_D_floor_1 rfl ?_
  refine q_callV (As := [vi j]) (q_D_checkPolynomial l K L σ x (by omega)) w_cd_D_checkPolynomial w_ini_D w_ml_D_37 w_im_D_checkPolynomial w_se_D_checkPolynomial hD0 rfl hd_D_checkPolynomial rfl (Nat.le_of_ble_eq_true rfl) d_D_floor_2 (by decide) (by decide) (fun v σ9 hp => ?_)
  obtain ⟨rfl, hσ⟩ := hp
  rw [hσ]
  clear hσ σ9
  refine q_iload d_D_floor_5 rfl ?_
  refine q_if_lt (tgt := 27) (by omega) d_D_floor_7 (by decide) (fun c7 => absurd c7 (by omega)) (fun c7 => ?_)
  refine q_iload d_D_floor_10 rfl ?_
  refine q_iload_n d_D_floor_12 rfl ?_
  refine q_if_eq (tgt := 21) (by decide) d_D_floor_13 (by decide) (fun c13 => absurd c13 (by decide)) (fun c13 => ?_)
  refine q_bipush d_D_floor_16 (by decide) ?_
  refine q_goto (tgt := 24) d_D_floor_18 (by decide) ?_
  refine q_icmp_le (tgt := 37) (by omega) (by omega) d_D_floor_24 (by decide) (fun c24 => ?_) (fun c24 => absurd c24 (by omega))
  refine q_aload_n d_D_floor_37 rfl ?_
  refine q_iload_n d_D_floor_38 rfl ?_
  refine q_callV (As := [vi j]) (q_D_some l K σ hDL hj (dg := (n : Int)) hdeg (by omega)) w_cd_D_some w_ini_D w_ml_D_62 w_im_D_some w_se_D_some hD0 rfl hd_D_some rfl (Nat.le_of_ble_eq_true rfl) d_D_floor_39 (by decide) (by decide) (fun v σ9 hp => ?_)
  obtain ⟨rfl, hσ⟩ := hp
  rw [hσ]
  clear hσ σ9
  refine q_ast_5 d_D_floor_42 (by decide) rfl ?_
  refine q_aload d_D_floor_44 rfl ?_
  refine q_aload_n d_D_floor_46 rfl ?_
  refine q_gr hD0 pc_D 1 (by decide) w_fl_D_19 rfl (by rfl) d_D_floor_47 ?_
  refine q_callV (As := [.ref (x + 356)]) (al_He_prepare l K hH hbe (by omega) hi hn) w_cd_He_prepare w_ini_He w_ml_D_66 w_im_He_prepare w_se_He_prepare hH.1 rfl hd_He_prepare rfl (Nat.le_of_ble_eq_true rfl) d_D_floor_50 (by decide) (by decide) (fun v σ1 hp => ?_)
  obtain ⟨rfl, k1, ⟨M, F, d, re, k2⟩, k3⟩ := hp
  have hg := k2.1.1
  have hcn := hg.cnt
  have hc5 := k2.1.2.2.2.1
  refine q_aload_n d_D_floor_53 rfl ?_
  refine q_aload d_D_floor_54 rfl ?_
  refine q_iload_n d_D_floor_56 rfl ?_
  refine q_callV (As := [.ref (x + 2 + 177 * j), vi i]) (q_D_checkRoot l K (n := vlo F d M - vhi F d M) hH hc5 (by omega) ⟨by omega, hok _ _ _ _ _ k2⟩) w_cd_D_checkRoot w_ini_D w_ml_D_108 w_im_D_checkRoot w_se_D_checkRoot hD0 rfl hd_D_checkRoot rfl (Nat.le_of_ble_eq_true rfl) d_D_floor_57 (by decide) (by decide) (fun v σ9 hp => ?_)
  obtain ⟨rfl, hσ⟩ := hp
  rw [hσ]
  clear hσ σ9
  have hlt := hok _ _ _ _ _ k2
  have hi8 : i < 8 := by omega
  refine q_aload d_D_floor_60 rfl ?_
  refine q_iload_n d_D_floor_62 rfl ?_
  refine q_aload_n d_D_floor_63 rfl ?_
  refine q_gr hD0 pc_D 1 (by decide) w_fl_D_19 rfl (by rfl) d_D_floor_64 ?_
  refine q_callV (As := [vi i, .ref (x + 356)]) (al_He_isolate l K (i := i) hH hbe (by omega) k2 hlt) w_cd_He_isolate w_ini_He w_ml_D_112 w_im_He_isolate w_se_He_isolate hH.1 rfl hd_He_isolate rfl (Nat.le_of_ble_eq_true rfl) d_D_floor_67 (by decide) (by decide) (fun v σ2 hp => ?_)
  obtain ⟨rfl, k4, hcl, -, k5⟩ := hp
  have ks2 := k1.mv (fun q h1 h2 => k5 q (by omega) (by omega) (by omega))
  refine q_aload d_D_floor_70 rfl ?_
  refine q_iload_n d_D_floor_72 rfl ?_
  refine q_iload_n d_D_floor_73 rfl ?_
  refine q_if_eq (tgt := 90) (by decide) d_D_floor_74 (by decide) (fun c74 => absurd c74 (by decide)) (fun c74 => ?_)
  refine q_iload d_D_floor_77 rfl ?_
  refine q_bipush d_D_floor_79 (by decide) ?_
  refine q_imul d_D_floor_81 ?_
  refine q_iconst d_D_floor_82 rfl ?_
  refine q_idiv (by omega) (by omega) (by omega) d_D_floor_83 ?_
  refine q_bipush d_D_floor_84 (by decide) ?_
  refine q_iadd d_D_floor_86 ?_
  refine q_topi (show ((m : Int) * 10).tdiv 3 + 8 = ((m * 10 / 3 + 8 : Nat) : Int) by rw [Int.tdiv_eq_ediv_of_nonneg (by omega)]; omega) ?_
  refine q_goto (tgt := 92) d_D_floor_87 (by decide) ?_
  refine q_aload_n d_D_floor_92 rfl ?_
  refine q_gr hD0 pc_D 1 (by decide) w_fl_D_19 rfl (by rfl) d_D_floor_93 ?_
  refine q_callV (As := [vi i, vi ((m * 10 / 3 + 8 : Nat) : Int), .ref (x + 356)]) (c_He_refine l K (i := i) (tg := ((m * 10 / 3 + 8 : Nat) : Int)) hH hbe (by omega) hi8 hg k4.1.2.1 hcl (by omega)) w_cd_He_refine w_ini_He w_ml_D_130 w_im_He_refine w_se_He_refine hH.1 rfl hd_He_refine rfl (Nat.le_of_ble_eq_true rfl) d_D_floor_96 (by decide) (by decide) (fun v σ3 hp => ?_)
  obtain ⟨rfl, ⟨z, lev, ls, xx, hca, hx⟩, k6⟩ := hp
  have k7 := k4.cat hca hi8 hlt (k6 _ (by omega) (by omega)) (by rw [k6 _ (by omega) (by omega)]) (fun q h1 h2 h3 => k6 q (by omega) h3)
  have ks3 := ks2.mv (fun q h1 h2 => k6 q (by omega) (by omega))
  obtain ⟨c1, c2, c3, c4, c5, hcc, c7, c8, zz⟩ := hca
  have hl572 : LV (d 0) = 572 := rfl
  obtain ⟨sN, hsN⟩ := hg.rs
  have kc3 := k7.1.2.1
  have g0 := flt_bd (P := F 0) (nd := d 0) (ls := ls) (x := xx) zz c7 hm
  have g2 : hid _ := lim_ofI g0.2
  have g1 : ((10 : Int) ^ m).natAbs ≤ 2 ^ 300 := by rw [ten_abs]; exact ten_300 hm
  have g3 : hid _ := lim_ofI g1
  have gb := hg.bits.1
  have g4 : hid (∀ k, k ≤ d 0 → ((F 0 k).natAbs : Int) < 2147483648 ^ 2) := fun k _ => lim_up (lim_ofI (Nat.le_trans (gb k) (Nat.pow_le_pow_right (by omega) (fbm_52 _ (by omega))))) (by decide)
  have g5 : hid (∀ i, i ≤ d 0 + 1 → ((((10 : Int) ^ m) ^ i).natAbs : Int) < 2147483648 ^ 88) := fun i hi => ten_pw g1 (by omega)
  have g6 : hid (∀ i, i ≤ d 0 → ((hf (F 0) (d 0) (mvd (z * 10 ^ m + 1 * 10 ^ m + -1) lev) (10 ^ m) i).natAbs : Int) < 2147483648 ^ 77) := fun i hi => hf_77 (fun k => Nat.le_trans (gb k) (Nat.pow_le_pow_right (by omega) (fbm_52 _ (by omega)))) g0.2 (Nat.le_trans g1 (Nat.pow_le_pow_right (by omega) (by omega))) (by omega)
  clear g0 g1 gb
  refine q_iload_n d_D_floor_99 rfl ?_
  refine q_if_eq (tgt := 118) (by decide) d_D_floor_100 (by decide) (fun c100 => absurd c100 (by decide)) (fun c100 => ?_)
  refine q_aload d_D_floor_103 rfl ?_
  refine q_iload_n d_D_floor_105 rfl ?_
  refine q_iload d_D_floor_106 rfl ?_
  refine q_aload_n d_D_floor_108 rfl ?_
  refine q_gr hD0 pc_D 1 (by decide) w_fl_D_19 rfl (by rfl) d_D_floor_109 ?_
  refine q_callV (As := [vi i, vi m, .ref (x + 356)]) (c_He_floorTen l K (i := i) (n := m) (nd := d 0) (w := 40) (u := 77) (w1 := 11) (w2 := 10) (pw := 88) (cw := 2) (P := F 0) hH hbe (by omega) hi8 hm (by omega) (kc3.2.2 0 (by omega)).2.1 (kc3.2.2 0 (by omega)).2.2 c1 c2 c3 (by have := hcc.2.2.2.2; omega) c5 hcc.x01 (zz.lim (by omega)) (by decide) (by omega) g2 g3 g4 g5 g6 (by decide) (by decide) (by decide) (by decide)) w_cd_He_floorTen w_ini_He w_ml_D_134 w_im_He_floorTen w_se_He_floorTen hH.1 rfl hd_He_floorTen rfl (Nat.le_of_ble_eq_true rfl) d_D_floor_112 (by decide) (by decide) (fun v σ4 hp => ?_)
  obtain ⟨⟨na, rfl, hna, v1⟩, k9⟩ := hp
  have hwv := flt_ok hg hcc hm hx
  have hwb := (flt_bd (P := F 0) (nd := d 0) (ls := ls) (x := xx) zz c7 hm).1
  generalize flt (F 0) (d 0) m z lev ls xx = w at *
  obtain ⟨nb, rfl, hnd, hLn⟩ : ∃ nb : Nat, na = nb ∧ (nb + 1 < x + 612 ∨ x + 612 + 5 ≤ nb) ∧ nL L nb 160 := by
    rcases hna with h9 | h9
    · exact ⟨x + 356 + 9, h9, by omega, hbe.2.1 4 (by decide)⟩
    · exact ⟨x + 356 + 11, h9, by omega, hbe.2.1 5 (by decide)⟩
  refine q_goto (tgt := 130) d_D_floor_115 (by decide) ?_
  refine q_ast_6 d_D_floor_130 (by decide) rfl ?_
  refine q_aload_n d_D_floor_132 rfl ?_
  refine q_gr hD0 pc_D 3 (by decide) w_fl_D_33 rfl (by rfl) d_D_floor_133 ?_
  refine q_aload d_D_floor_136 rfl ?_
  refine q_callV (As := [.ref na]) (c_Tx_write l K (a := x + 612) (b := na) htx hLn hnd v1 (tx_fit hwb).1 (tx_fit hwb).2) w_cd_Tx_write w_ini_Tx w_ml_D_141 w_im_Tx_write w_se_Tx_write htx.1 rfl hd_Tx_write rfl (Nat.le_of_ble_eq_true rfl) d_D_floor_138 (by decide) (by decide) (fun v σ5 hp => ?_)
  obtain ⟨nd, t1, rfl, t2, t3, t4⟩ := hp
  have fr5 : ∀ q, q ≤ x + 356 → σ5 q = σ3 q := fun q h1 => by rw [t4 q (by omega), k9 q (by omega)]
  exact q_iret rfl (⟨⟨M, F, d, re, ⟨w, nd, hwv, t1, rfl, t2, t3⟩, k7.mv (fr5 _ (by omega)) (by rw [fr5 _ (by omega)]) (fun q h1 h2 => fr5 q (by omega))⟩, ks3.mv (fun q h1 h2 => fr5 q (by omega)), fun q h1 h2 h3 => by rw [t4 q (by omega), k9 q (by omega), k6 q (by omega) (by omega), k5 q (by omega) (by omega) (by omega)]; exact k3 q h1 h2⟩) d_D_floor_141
