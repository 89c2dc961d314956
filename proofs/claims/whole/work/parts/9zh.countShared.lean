/-! QUERY: countShared -/
set_option maxHeartbeats 4000000 in
set_option maxRecDepth 100000 in
theorem c_Qu_countShared (l : Launch) (K : pw_K) {L : q_L} {σ : q_S} {qa a b B n M n2 M2 re : Nat} {P P2 : Nat → Int} {F F2 : Nat → Nat → Int} {d d2 : Nat → Nat} (hqL : quL L qa) (hL : heL L a) (hL2 : heL L b) (hbL : beL L B) (hab : b = a + 177) (hdj : b + 177 ≤ B) (hqB : qa = B + 91) (hg : gch P n M F d) (hg2 : gch P2 n2 M2 F2 d2) (hre : re = 32 ∨ rok (F 0) (d 0) re) (hre2 : re ≤ 32) (hc : cst σ a M F d) (hc2 : cst σ b M2 F2 d2) : q_C l K L y_Qu_countShared b_Qu_countShared 5 (some .int) 6 [.ref qa, .ref a, .ref b, .ref B] σ (fun r σ' => r = some (vi (nvz (lk F d 0) (cN F d M) (lk F2 d2 0) (vlo F d M - vhi F d M).toNat)) ∧ (∀ q, (q ≤ B ∨ B + 91 ≤ q) → (q ≤ qa ∨ qa + 145 ≤ q) → σ' q = σ q)) := by
  obtain ⟨hq0, hqc, hqt⟩ := hqL
  have hqcL := hqc
  obtain ⟨qc0, ⟨qg, qg1, qg2⟩, qpl⟩ := hqc
  have hpq0 : pL L (qa + 3) 16 48 := qpl 0 (by decide)
  have hpq1 : pL L (qa + 37) 9 48 := qpl 1 (by decide)
  obtain ⟨hH0, -, -, hch, -, -⟩ := hL
  obtain ⟨hK0, -, -, hkh, -, -⟩ := hL2
  obtain ⟨hc0, ⟨g, hg1, hg2'⟩, hpl⟩ := hch
  obtain ⟨kc0, ⟨gk, hgk1, hgk2⟩, hkpl⟩ := hkh
  have hpa : pL L (a + 24) 9 48 := hpl 0 (by decide)
  have hpb : pL L (b + 24) 9 48 := hkpl 0 (by decide)
  have hb0 := hbL.1
  have hpD : pL L (B + 71) 9 48 := hbL.2.2.2.2.2
  have hd8 : d 0 ≤ 8 := by have := hg.cnt; have := hg.2.2.1; omega
  have hd8b : d2 0 ≤ 8 := by have := hg2.cnt; have := hg2.2.2.1; omega
  have c1 : d 0 < 9 ∧ σ (a + 24) 1 = (d 0 : Int) ∧ ∀ c, c ≤ d 0 → nV σ (a + 24 + 2 + 2 * c) 48 (F 0 c) := hc.2.2 0 (Nat.zero_le _)
  have c2 : d2 0 < 9 ∧ σ (b + 24) 1 = (d2 0 : Int) ∧ ∀ c, c ≤ d2 0 → nV σ (b + 24 + 2 + 2 * c) 48 (F2 0 c) := hc2.2.2 0 (Nat.zero_le _)
  have z1 := hg.zq 0 (by omega)
  have z2 := hg2.zq 0 (by omega)
  have l1a : hid _ := hg.l0
  have l1b : hid _ := hg2.l0
  have e162 : chO 16 2 = 56 := rfl
  have e161 : chO 16 1 = 36 := rfl
  have e160 : chO 16 0 = 2 := rfl
  have hfa := fbm_r (d 0)
  have hfb := fbm_r (d2 0)
  refine q_start [some (.ref qa), some (.ref a), some (.ref b), some (.ref B), none] (by decide) (Nat.le_of_ble_eq_true rfl) (fun q h => h) ?_
  have tail : ∀ (σ1 : q_S) (sw : Int) (G0 G1 : Nat → Int) (m0 m1 : Nat), m1 ≤ m0 → m0 ≤ 8 → σ1 (qa + 3) 1 = (m0 : Int) → σ1 (qa + 37) 1 = (m1 : Int) → (∀ k, k ≤ m0 → nV σ1 (qa + 3 + 2 + 2 * k) 48 (G0 k)) → (∀ k, k ≤ m1 → nV σ1 (qa + 37 + 2 + 2 * k) 48 (G1 k)) → (∀ c, m0 < c → G0 c = 0) → (∀ c, m1 < c → G1 c = 0) → G0 m0 ≠ 0 → G1 m1 ≠ 0 → hid (l1 G0 (m0 + 1) ≤ 2 ^ fbm m0) → hid (l1 G1 (m1 + 1) ≤ 2 ^ fbm m1) → hid (∀ D, cmf (ev G0 (m0 + 1)) (ev G1 (m1 + 1)) D → cmf (lk F d 0) (lk F2 d2 0) D) → (∀ q, (q ≤ B ∨ B + 91 ≤ q) → (q ≤ qa ∨ qa + 145 ≤ q) → σ1 q = σ q) → q_T l K L R_Qu b_Qu_countShared 5 (some .int) 6 (fun r σ' => r = some (vi (nvz (lk F d 0) (cN F d M) (lk F2 d2 0) (vlo F d M - vhi F d M).toNat)) ∧ (∀ q, (q ≤ B ∨ B + 91 ≤ q) → (q ≤ qa ∨ qa + 145 ≤ q) → σ' q = σ q)) 110 [some (.ref qa), some (.ref a), some (.ref b), some (.ref B), some (vi sw)] [] σ1 := by
    intro σ1 sw G0 G1 m0 m1 hm hm8 f1 f2 f3 f4 f5 f6 f7 f8 f9 f10 f11 f12
    refine q_aload_n d_Qu_countShared_110 rfl ?_
    refine q_gr hq0 pc_Qu 0 (by decide) w_fl_Qu_14 rfl (by rfl) d_Qu_countShared_111 ?_
    refine q_aload_n d_Qu_countShared_114 rfl ?_
    refine q_callV (As := [.ref B]) (c_Ch_build l K (ch := qa + 1) (h := 16) (f := fbm m0) (g := fbm m1) (n := m0) (m := m1) (F0 := G0) (F1 := G1) hqcL hbL (by omega) (by omega) (by omega) (by omega) (by omega) f1 f2 f3 f4 f5 f6 f7 f8 f9 f10 (okc_c m0 (by omega) m1 hm)) w_cd_Ch_build w_ini_Ch w_ml_Qu_77 w_im_Ch_build w_se_Ch_build qc0 rfl hd_Ch_build rfl (Nat.le_of_ble_eq_true rfl) d_Qu_countShared_115 (by decide) (by decide) (fun v σ2 hp => ?_)
    obtain ⟨rfl, M', F', d', g0, g1, g2, g3, hM1', hM9', hcs', k1, k2, k3⟩ := hp
    have hcm : cmf (lk F d 0) (lk F2 d2 0) (lk F' d' M') := f11 _ (by
      have h9 := chs_cmf hcs' hM1'
      have e9 : lk F' d' 0 = ev G0 (m0 + 1) := by funext x; show ev (F' 0) (d' 0 + 1) x = _; rw [g0, g2]
      have e8 : lk F' d' 1 = ev G1 (m1 + 1) := by funext x; show ev (F' 1) (d' 1 + 1) x = _; rw [g1, g3]
      rw [e9, e8] at h9
      exact h9)
    have hzM : F' M' (d' M') ≠ 0 ∧ (∀ c, d' M' < c → F' M' c = 0) ∧ (1 ≤ d' M' → d' M' < 9) ∧ (∀ c, (F' M' c).natAbs ≤ 2 ^ 1480) ∧ d' M' ≤ m1 := by
      have h9 := hcs'
      obtain ⟨sc, ht, hcc, -⟩ := h9
      have h8 := hcc.1 M' (Nat.le_refl _)
      have h7 := cin_deg hcc M' hM1' (Nat.le_refl _)
      refine ⟨h8.2, h8.1, fun _ => by omega, fun c => ?_, by omega⟩
      have hb := (cin_bits hcc hM1').2.1 c
      have hf1 := (fbm_r m1).2
      have hf0 := (fbm_r m0).2
      refine Nat.le_trans hb (Nat.pow_le_pow_right (by omega) ?_)
      split
      · omega
      · refine Nat.le_trans (bt_le (Nat.zero_le _)) ?_
        unfold bt
        have x1 : (d' 1 - 0) * fbm m0 ≤ 8 * 52 := Nat.mul_le_mul (by omega) hf0
        have x2 : (d' 0 - 0) * fbm m1 ≤ 8 * 52 := Nat.mul_le_mul (by omega) hf1
        omega
    obtain ⟨w1, w2, w3, w4, w5⟩ := hzM
    have w4 : hid _ := w4
    have hMe := chO_end (h := 16) (k := M') (by omega)
    have hMg := chO_ge (h := 16) (k := M')
    have hpM := qpl M' (by omega)
    have hMN : d' M' < chN 16 M' := by
      have h9 := hcs'
      obtain ⟨sc, ht, hcc, -⟩ := h9
      have := cin_deg hcc M' hM1' (Nat.le_refl _)
      unfold chN
      rw [if_neg (by omega)]
      omega
    have fr2 : (∀ q, (q ≤ B ∨ B + 91 ≤ q) → (q ≤ qa ∨ qa + 145 ≤ q) → σ2 q = σ q) := fun q h1 h2 => by rw [k3 q (by omega) (by omega)]; exact f12 q h1 h2
    refine q_aload_n d_Qu_countShared_118 rfl ?_
    refine q_gr hq0 pc_Qu 0 (by decide) w_fl_Qu_14 rfl (by rfl) d_Qu_countShared_119 ?_
    refine q_callV (As := []) (c_Ch_last l K (a := qa + 1) (h := 16) (n := M' + 1) hqcL k1 (by omega)) w_cd_Ch_last w_ini_Ch w_ml_Qu_143 w_im_Ch_last w_se_Ch_last qc0 rfl hd_Ch_last rfl (Nat.le_of_ble_eq_true rfl) d_Qu_countShared_122 (by decide) (by decide) (fun v σ9 hp => ?_)
    obtain ⟨rfl, hσ⟩ := hp
    rw [hσ]
    clear hσ σ9
    refine q_gi hpM.1 pc_Py 1 (by decide) w_fl_Qu_29 rfl (by rfl) d_Qu_countShared_125 ?_
    refine q_topi (k2 M' (Nat.le_refl _)).1 ?_
    refine q_if_gt (tgt := 133) (by omega) d_Qu_countShared_128 (by decide) (fun cd => ?_) (fun cd => ?_)
    · refine q_aload_n d_Qu_countShared_133 rfl ?_
      refine q_aload_n d_Qu_countShared_134 rfl ?_
      refine q_gr hq0 pc_Qu 0 (by decide) w_fl_Qu_14 rfl (by rfl) d_Qu_countShared_135 ?_
      refine q_callV (As := []) (c_Ch_last l K (a := qa + 1) (h := 16) (n := M' + 1) hqcL k1 (by omega)) w_cd_Ch_last w_ini_Ch w_ml_Qu_143 w_im_Ch_last w_se_Ch_last qc0 rfl hd_Ch_last rfl (Nat.le_of_ble_eq_true rfl) d_Qu_countShared_138 (by decide) (by decide) (fun v σ9 hp => ?_)
      obtain ⟨rfl, hσ⟩ := hp
      rw [hσ]
      clear hσ σ9
      refine q_callV (As := [.ref (qa + 1 + chO 16 M')]) (c_Be_setDivisor l K _ (n := d' M' + 1) (P := F' M') hbL hpM (by omega) (by omega) (by omega) (by omega) (by rw [(k2 M' (Nat.le_refl _)).1]; omega) (fun k hk => (k2 M' (Nat.le_refl _)).2 k (by omega)) w1 (fun k _ => lim_ofI (x := 1480) (w4 k))) w_cd_Be_setDivisor w_ini_Be w_ml_Qu_147 w_im_Be_setDivisor w_se_Be_setDivisor hb0 rfl hd_Be_setDivisor rfl (Nat.le_of_ble_eq_true rfl) d_Qu_countShared_141 (by decide) (by decide) (fun v σ3 hp => ?_)
      obtain ⟨rfl, k4, k5, k6⟩ := hp
      obtain ⟨y1, y2, y3⟩ := gn_ex w1
      obtain ⟨D, hD⟩ : ∃ D : Nat → Int, D = fun c => (F' M' c).tdiv (gn (F' M') (d' M' + 1)) := ⟨_, rfl⟩
      have hDc : ∀ c, (F' M' c).tdiv (gn (F' M') (d' M' + 1)) = D c := fun c => by rw [hD]
      have hDz : ∀ c, d' M' < c → D c = 0 := fun c hc => by rw [← hDc, w2 c hc]; exact Int.zero_tdiv _
      have hDl : D (d' M') ≠ 0 := fun h9 => by have := y2 (d' M') (Nat.le_refl _); rw [hDc, h9, Int.mul_zero] at this; exact w1 this
      have hDg : gn D (d' M' + 1) = 1 := by rw [hD]; exact y3
      have hsc : ∀ x, lk F' d' M' x = ((gn (F' M') (d' M' + 1) : Int) : Rat) * ev D (d' M' + 1) x := fun x => by
        show ev (F' M') (d' M' + 1) x = _
        rw [ev_congr (Q := fun c => (gn (F' M') (d' M' + 1) : Int) * D c + 0 * D c) (fun c hc => by rw [y2 c (by omega), hDc, Int.zero_mul, Int.add_zero]) x, ev_lin]
        have : ((0 : Int) : Rat) = 0 := rfl
        rw [this]
        grind
      have hgp : ((gn (F' M') (d' M' + 1) : Int) : Rat) ≠ 0 := fun h9 => by have := Rat.intCast_eq_zero_iff.1 h9; omega
      have hcm2 : cmf (lk F d 0) (lk F2 d2 0) (ev D (d' M' + 1)) := hcm.scale hgp hsc
      have hDf : l1 D (d' M' + 1) ≤ 2 ^ fbm (d' M') ∧ d' M' ≤ n := by
        have h9 := hcm2
        obtain ⟨ra, rb', ua, ub, p1, p2, p3, p4, e1, e2, e3⟩ := h9
        exact hg.fac hDz hDl hDg p1 e1
      obtain ⟨hDf, hDn⟩ := hDf
      have hDf : hid _ := hDf
      have hDb : hid (∀ c, ((D c).natAbs : Int) < 2147483648 ^ 2) := fun c => lim_up (lim_ofI (l1_all hDz hDf c)) (by have := (fbm_r (d' M')).2; omega)
      have hda1 : 1 ≤ d 0 := by
        rcases Nat.eq_zero_or_pos (d 0) with h9 | h9
        · exfalso
          have h8 := hcm2
          obtain ⟨ra, rb', ua, ub, p1, p2, p3, p4, e1, e2, e3⟩ := h8
          have h7 : dg (lk F d 0) 0 := by have := dg_ev z1.2; rw [h9] at this; have e9 : lk F d 0 = ev (F 0) (0 + 1) := by funext x; show ev (F 0) (d 0 + 1) x = _; rw [h9]
                                          rw [e9]; exact this
          obtain ⟨pn, hpn⟩ := p1
          rcases hpn.dich with h6 | ⟨dr, -, h6⟩
          · obtain ⟨x9, h5⟩ := ev_ne0 z1.2
            exact h5 (by have := e1 x9; rw [h6 x9] at this; show lk F d 0 x9 = 0; rw [this]; grind)
          · have h4 := ((dg_ev hDl).mul h6).congr (g := lk F d 0) e1
            have := h4.eq h7
            omega
        · exact h9
      have hDe : ∀ k, k < d' M' + 1 → nV σ3 (B + 71 + 2 + 2 * k) 48 (D k) := fun k hk => by rw [← hDc]; exact k5 k hk
      refine q_aload_n d_Qu_countShared_144 rfl ?_
      refine q_gr hq0 pc_Qu 0 (by decide) w_fl_Qu_14 rfl (by rfl) d_Qu_countShared_145 ?_
      refine q_gr qc0 pc_Ch 0 (by decide) w_fl_Qu_65 rfl (by rfl) d_Qu_countShared_148 ?_
      refine q_iconst d_Qu_countShared_151 rfl ?_
      refine q_aal (0) 5 (b := qa + 3) rfl qg1 (by omega) (by omega) (by omega) (qg2 0 (by decide)) d_Qu_countShared_152 ?_
      refine q_aload_n d_Qu_countShared_153 rfl ?_
      refine q_gr hb0 pc_Be 15 (by decide) w_fl_Qu_150 rfl (by rfl) d_Qu_countShared_154 ?_
      refine q_callV (As := [.ref (B + 71)]) (c_Py_copy l K (n := d' M' + 1) (P := D) hpq0 hpD (by decide) (by omega) (by omega) (by omega) (by rw [k4]) hDe (fun k _ => lim_up (hDb k) (by decide))) w_cd_Py_copy w_ini_Py w_ml_Qu_73 w_im_Py_copy w_se_Py_copy hpq0.1 rfl hd_Py_copy rfl (Nat.le_of_ble_eq_true rfl) d_Qu_countShared_157 (by decide) (by decide) (fun v σ4 hp => ?_)
      obtain ⟨rfl, k7, k8, k9⟩ := hp
      rw [top_lead hDl] at k7
      refine q_aload_n d_Qu_countShared_160 rfl ?_
      refine q_gr hq0 pc_Qu 0 (by decide) w_fl_Qu_14 rfl (by rfl) d_Qu_countShared_161 ?_
      refine q_callV (As := []) (c_Ch_deriveHead l K (a := qa + 1) (h := 16) (n := d' M' + 1) (P := D) hqcL (by omega) (by omega) (by omega) hDl k7 k8 (fun k _ => lim_up (hDb k) (by decide))) w_cd_Ch_deriveHead w_ini_Ch w_ml_Qu_153 w_im_Ch_deriveHead w_se_Ch_deriveHead qc0 rfl hd_Ch_deriveHead rfl (Nat.le_of_ble_eq_true rfl) d_Qu_countShared_164 (by decide) (by decide) (fun v σ5 hp => ?_)
      obtain ⟨rfl, k10, k11, k12⟩ := hp
      rw [Nat.add_sub_cancel] at k10 k11
      rw [e161] at k10 k11 k12
      have hdp : ∀ k, dP D k = D (k + 1) * ((k : Int) + 1) := fun k => Int.mul_comm _ _
      have hl2 : D (d' M' - 1 + 1) * (((d' M' - 1 : Nat) : Int) + 1) ≠ 0 := by rw [show d' M' - 1 + 1 = d' M' by omega]; exact Int.mul_ne_zero hDl (by omega)
      have ht2 : top (fun k => D (k + 1) * ((k : Int) + 1)) (d' M') = d' M' := by have := top_lead (P := fun k => D (k + 1) * ((k : Int) + 1)) hl2; rw [show d' M' - 1 + 1 = d' M' by omega] at this; exact this
      rw [ht2] at k10
      refine q_aload_n d_Qu_countShared_167 rfl ?_
      refine q_gr hq0 pc_Qu 0 (by decide) w_fl_Qu_14 rfl (by rfl) d_Qu_countShared_168 ?_
      refine q_aload_n d_Qu_countShared_171 rfl ?_
      refine q_callV (As := [.ref B]) (c_Ch_build l K (ch := qa + 1) (h := 16) (f := fbm (d' M')) (g := fbm (d' M') + 3) (n := d' M') (m := d' M' - 1) (F0 := D) (F1 := dP D) hqcL hbL (by omega) (by omega) (by omega) (by omega) (by omega) (by rw [show qa + 1 + chO 16 0 = qa + 3 from rfl, k12 _ (by omega), k7]; omega) (by rw [e161, k10]; omega) (fun k hk => (k8 k (by omega)).mv (k12 _ (by omega)) (k12 _ (by omega))) (fun k hk => by rw [hdp]; exact k11 k (by omega)) hDz (fun c hc => by rw [hdp, hDz _ (by omega), Int.zero_mul]) hDl (by rw [hdp]; exact hl2) hDf (by rw [show d' M' - 1 + 1 = d' M' by omega]; exact l1_dP8 (by omega) hDf) (okc_1 (d' M') (by omega) (by omega))) w_cd_Ch_build w_ini_Ch w_ml_Qu_77 w_im_Ch_build w_se_Ch_build qc0 rfl hd_Ch_build rfl (Nat.le_of_ble_eq_true rfl) d_Qu_countShared_172 (by decide) (by decide) (fun v σ6 hp => ?_)
      obtain ⟨rfl, M3, F3, d3, j0, j1, j2, j3, hM13, hM93, hcs3, k13, k14, k15⟩ := hp
      have hF13 : ∀ c, F3 1 c = dP (F3 0) c := fun c => by rw [j1, j0]
      have hd13 : d3 0 = d3 1 + 1 := by omega
      have hcm3 : cmf (lk F d 0) (lk F2 d2 0) (lk F3 d3 0) := by
        have e9 : lk F3 d3 0 = ev D (d' M' + 1) := by funext x; show ev (F3 0) (d3 0 + 1) x = _; rw [j0, j2]
        rw [e9]; exact hcm2
      have hval := cm_1 hg hda1 hre hre2 (pl.ev _ _) hcm3 hcs3 hM13 hF13 hd13
      have hcN3 : ∀ k, k < M3 + 1 → d3 k + 1 ≤ chN 16 k := by
        intro k hk
        have h9 := hcs3
        obtain ⟨sc, ht, hcc, -⟩ := h9
        unfold chN
        split
        · rename_i e9; subst e9; omega
        · have := cin_deg hcc k (by omega) (by omega)
          omega
      refine q_aload_n d_Qu_countShared_175 rfl ?_
      refine q_gr hq0 pc_Qu 0 (by decide) w_fl_Qu_14 rfl (by rfl) d_Qu_countShared_176 ?_
      refine q_callV (As := []) (c_Ch_realRoots l K (a := qa + 1) (h := 16) (n := M3 + 1) (dn := fun k => d3 k + 1) (P := F3) hqcL (by rw [k13]; rfl) (by omega) hcN3 (fun k hk => by rw [(k14 k (by omega)).1]; show (d3 k : Int) = ((d3 k + 1 : Nat) : Int) - 1; omega) (fun k hk i hi => (k14 k (by omega)).2 i (Nat.le_of_lt_succ hi))) w_cd_Ch_realRoots w_ini_Ch w_ml_Qu_156 w_im_Ch_realRoots w_se_Ch_realRoots qc0 rfl hd_Ch_realRoots rfl (Nat.le_of_ble_eq_true rfl) d_Qu_countShared_179 (by decide) (by decide) (fun v σ7 hp => ?_)
      obtain ⟨rfl, hσ⟩ := hp
      rw [hσ]
      clear hσ σ7
      refine q_topi (show _ = vlo F3 d3 M3 - vhi F3 d3 M3 from rfl) ?_
      refine q_topi hval ?_
      exact q_iret rfl (⟨rfl, fun q h1 h2 => by rw [k15 q (by omega) (by omega), k12 q (by omega), k9 q (by omega), k6 q (by omega)]; exact fr2 q h1 h2⟩) d_Qu_countShared_182
    · refine q_iconst d_Qu_countShared_131 rfl ?_
      have hd0 : d' M' = 0 := by omega
      have hv0 := cm_0 hg hre hre2 (pl.ev _ _) hcm w1 (fun x => by show ev (F' M') (d' M' + 1) x = _; rw [hd0]; exact ev_one1 _ x)
      refine q_topi (show (0 : Int) = nvz (lk F d 0) (cN F d M) (lk F2 d2 0) (vlo F d M - vhi F d M).toNat from hv0.symm) ?_
      exact q_iret rfl (⟨rfl, fr2⟩) d_Qu_countShared_132
  refine q_aload_n d_Qu_countShared_0 rfl ?_
  refine q_gr hH0 pc_He 2 (by decide) w_fl_Qu_62 rfl (by rfl) d_Qu_countShared_1 ?_
  refine q_gr hc0 pc_Ch 0 (by decide) w_fl_Qu_65 rfl (by rfl) d_Qu_countShared_4 ?_
  refine q_iconst d_Qu_countShared_7 rfl ?_
  refine q_aal (0) 5 (b := a + 24) rfl hg1 (by omega) (by omega) (by omega) (hg2' 0 (by decide)) d_Qu_countShared_8 ?_
  refine q_gi hpa.1 pc_Py 1 (by decide) w_fl_Qu_29 rfl (by rfl) d_Qu_countShared_9 ?_
  refine q_topi c1.2.1 ?_
  refine q_aload_n d_Qu_countShared_12 rfl ?_
  refine q_gr hK0 pc_He 2 (by decide) w_fl_Qu_62 rfl (by rfl) d_Qu_countShared_13 ?_
  refine q_gr kc0 pc_Ch 0 (by decide) w_fl_Qu_65 rfl (by rfl) d_Qu_countShared_16 ?_
  refine q_iconst d_Qu_countShared_19 rfl ?_
  refine q_aal (0) 5 (b := b + 24) rfl hgk1 (by omega) (by omega) (by omega) (hgk2 0 (by decide)) d_Qu_countShared_20 ?_
  refine q_gi hpb.1 pc_Py 1 (by decide) w_fl_Qu_29 rfl (by rfl) d_Qu_countShared_21 ?_
  refine q_topi c2.2.1 ?_
  refine q_icmp_ge (tgt := 31) (by omega) (by omega) d_Qu_countShared_24 (by decide) (fun cs => ?_) (fun cs => ?_)
  · refine q_iconst d_Qu_countShared_31 rfl ?_
    refine q_ist_4 d_Qu_countShared_32 (by decide) rfl ?_
    refine q_aload_n d_Qu_countShared_34 rfl ?_
    refine q_gr hq0 pc_Qu 0 (by decide) w_fl_Qu_14 rfl (by rfl) d_Qu_countShared_35 ?_
    refine q_gr qc0 pc_Ch 0 (by decide) w_fl_Qu_65 rfl (by rfl) d_Qu_countShared_38 ?_
    refine q_iconst d_Qu_countShared_41 rfl ?_
    refine q_aal (0) 5 (b := qa + 3) rfl qg1 (by omega) (by omega) (by omega) (qg2 0 (by decide)) d_Qu_countShared_42 ?_
    refine q_iload d_Qu_countShared_43 rfl ?_
    refine q_if_eq (tgt := 60) (by omega) d_Qu_countShared_45 (by decide) (fun c45 => ?_) (fun c45 => absurd c45 (by omega))
    refine q_aload_n d_Qu_countShared_60 rfl ?_
    refine q_gr hH0 pc_He 2 (by decide) w_fl_Qu_62 rfl (by rfl) d_Qu_countShared_61 ?_
    refine q_gr hc0 pc_Ch 0 (by decide) w_fl_Qu_65 rfl (by rfl) d_Qu_countShared_64 ?_
    refine q_iconst d_Qu_countShared_67 rfl ?_
    refine q_aal (0) 5 (b := a + 24) rfl hg1 (by omega) (by omega) (by omega) (hg2' 0 (by decide)) d_Qu_countShared_68 ?_
    refine q_callV (As := [.ref (a + 24)]) (c_Py_copy l K (n := d 0 + 1) (P := F 0) hpq0 hpa (by decide) (by omega) (by omega) (by omega) (by rw [c1.2.1]; omega) (fun k hk => c1.2.2 k (by omega)) (fun k _ => lim_up (lim_ofI (l1_all z1.1 l1a k)) (by omega))) w_cd_Py_copy w_ini_Py w_ml_Qu_73 w_im_Py_copy w_se_Py_copy hpq0.1 rfl hd_Py_copy rfl (Nat.le_of_ble_eq_true rfl) d_Qu_countShared_69 (by decide) (by decide) (fun v σ1 hp => ?_)
    obtain ⟨rfl, k1, k2, k3⟩ := hp
    rw [top_lead z1.2] at k1
    refine q_aload_n d_Qu_countShared_72 rfl ?_
    refine q_gr hq0 pc_Qu 0 (by decide) w_fl_Qu_14 rfl (by rfl) d_Qu_countShared_73 ?_
    refine q_gr qc0 pc_Ch 0 (by decide) w_fl_Qu_65 rfl (by rfl) d_Qu_countShared_76 ?_
    refine q_iconst d_Qu_countShared_79 rfl ?_
    refine q_aal (1) 5 (b := qa + 37) rfl qg1 (by omega) (by omega) (by omega) (qg2 1 (by decide)) d_Qu_countShared_80 ?_
    refine q_iload d_Qu_countShared_81 rfl ?_
    refine q_if_eq (tgt := 98) (by omega) d_Qu_countShared_83 (by decide) (fun c83 => ?_) (fun c83 => absurd c83 (by omega))
    refine q_aload_n d_Qu_countShared_98 rfl ?_
    refine q_gr hK0 pc_He 2 (by decide) w_fl_Qu_62 rfl (by rfl) d_Qu_countShared_99 ?_
    refine q_gr kc0 pc_Ch 0 (by decide) w_fl_Qu_65 rfl (by rfl) d_Qu_countShared_102 ?_
    refine q_iconst d_Qu_countShared_105 rfl ?_
    refine q_aal (0) 5 (b := b + 24) rfl hgk1 (by omega) (by omega) (by omega) (hgk2 0 (by decide)) d_Qu_countShared_106 ?_
    refine q_callV (As := [.ref (b + 24)]) (c_Py_copy l K (n := d2 0 + 1) (P := F2 0) hpq1 hpb (by decide) (by omega) (by omega) (by omega) (by rw [k3 _ (by omega), c2.2.1]; omega) (fun k hk => (c2.2.2 k (by omega)).mv (k3 _ (by omega)) (k3 _ (by omega))) (fun k _ => lim_up (lim_ofI (l1_all z2.1 l1b k)) (by omega))) w_cd_Py_copy w_ini_Py w_ml_Qu_73 w_im_Py_copy w_se_Py_copy hpq1.1 rfl hd_Py_copy rfl (Nat.le_of_ble_eq_true rfl) d_Qu_countShared_107 (by decide) (by decide) (fun v σ2 hp => ?_)
    obtain ⟨rfl, k4, k5, k6⟩ := hp
    rw [top_lead z2.2] at k4
    exact tail σ2 _ (F 0) (F2 0) (d 0) (d2 0) (by omega) (by omega) (by rw [k6 _ (by omega), k1]; omega) (by rw [k4]; omega) (fun k hk => (k2 k (by omega)).mv (k6 _ (by omega)) (k6 _ (by omega))) (fun k hk => k5 k (by omega)) z1.1 z2.1 z1.2 z2.2 l1a l1b (fun D hD => hD) (fun q h1 h2 => by rw [k6 q (by omega), k3 q (by omega)])
  · refine q_iconst d_Qu_countShared_27 rfl ?_
    refine q_goto (tgt := 32) d_Qu_countShared_28 (by decide) ?_
    refine q_ist_4 d_Qu_countShared_32 (by decide) rfl ?_
    refine q_aload_n d_Qu_countShared_34 rfl ?_
    refine q_gr hq0 pc_Qu 0 (by decide) w_fl_Qu_14 rfl (by rfl) d_Qu_countShared_35 ?_
    refine q_gr qc0 pc_Ch 0 (by decide) w_fl_Qu_65 rfl (by rfl) d_Qu_countShared_38 ?_
    refine q_iconst d_Qu_countShared_41 rfl ?_
    refine q_aal (0) 5 (b := qa + 3) rfl qg1 (by omega) (by omega) (by omega) (qg2 0 (by decide)) d_Qu_countShared_42 ?_
    refine q_iload d_Qu_countShared_43 rfl ?_
    refine q_if_eq (tgt := 60) (by omega) d_Qu_countShared_45 (by decide) (fun c45 => absurd c45 (by omega)) (fun c45 => ?_)
    refine q_aload_n d_Qu_countShared_48 rfl ?_
    refine q_gr hK0 pc_He 2 (by decide) w_fl_Qu_62 rfl (by rfl) d_Qu_countShared_49 ?_
    refine q_gr kc0 pc_Ch 0 (by decide) w_fl_Qu_65 rfl (by rfl) d_Qu_countShared_52 ?_
    refine q_iconst d_Qu_countShared_55 rfl ?_
    refine q_aal (0) 5 (b := b + 24) rfl hgk1 (by omega) (by omega) (by omega) (hgk2 0 (by decide)) d_Qu_countShared_56 ?_
    refine q_goto (tgt := 69) d_Qu_countShared_57 (by decide) ?_
    refine q_callV (As := [.ref (b + 24)]) (c_Py_copy l K (n := d2 0 + 1) (P := F2 0) hpq0 hpb (by decide) (by omega) (by omega) (by omega) (by rw [c2.2.1]; omega) (fun k hk => c2.2.2 k (by omega)) (fun k _ => lim_up (lim_ofI (l1_all z2.1 l1b k)) (by omega))) w_cd_Py_copy w_ini_Py w_ml_Qu_73 w_im_Py_copy w_se_Py_copy hpq0.1 rfl hd_Py_copy rfl (Nat.le_of_ble_eq_true rfl) d_Qu_countShared_69 (by decide) (by decide) (fun v σ1 hp => ?_)
    obtain ⟨rfl, k1, k2, k3⟩ := hp
    rw [top_lead z2.2] at k1
    refine q_aload_n d_Qu_countShared_72 rfl ?_
    refine q_gr hq0 pc_Qu 0 (by decide) w_fl_Qu_14 rfl (by rfl) d_Qu_countShared_73 ?_
    refine q_gr qc0 pc_Ch 0 (by decide) w_fl_Qu_65 rfl (by rfl) d_Qu_countShared_76 ?_
    refine q_iconst d_Qu_countShared_79 rfl ?_
    refine q_aal (1) 5 (b := qa + 37) rfl qg1 (by omega) (by omega) (by omega) (qg2 1 (by decide)) d_Qu_countShared_80 ?_
    refine q_iload d_Qu_countShared_81 rfl ?_
    refine q_if_eq (tgt := 98) (by omega) d_Qu_countShared_83 (by decide) (fun c83 => absurd c83 (by omega)) (fun c83 => ?_)
    refine q_aload_n d_Qu_countShared_86 rfl ?_
    refine q_gr hH0 pc_He 2 (by decide) w_fl_Qu_62 rfl (by rfl) d_Qu_countShared_87 ?_
    refine q_gr hc0 pc_Ch 0 (by decide) w_fl_Qu_65 rfl (by rfl) d_Qu_countShared_90 ?_
    refine q_iconst d_Qu_countShared_93 rfl ?_
    refine q_aal (0) 5 (b := a + 24) rfl hg1 (by omega) (by omega) (by omega) (hg2' 0 (by decide)) d_Qu_countShared_94 ?_
    refine q_goto (tgt := 107) d_Qu_countShared_95 (by decide) ?_
    refine q_callV (As := [.ref (a + 24)]) (c_Py_copy l K (n := d 0 + 1) (P := F 0) hpq1 hpa (by decide) (by omega) (by omega) (by omega) (by rw [k3 _ (by omega), c1.2.1]; omega) (fun k hk => (c1.2.2 k (by omega)).mv (k3 _ (by omega)) (k3 _ (by omega))) (fun k _ => lim_up (lim_ofI (l1_all z1.1 l1a k)) (by omega))) w_cd_Py_copy w_ini_Py w_ml_Qu_73 w_im_Py_copy w_se_Py_copy hpq1.1 rfl hd_Py_copy rfl (Nat.le_of_ble_eq_true rfl) d_Qu_countShared_107 (by decide) (by decide) (fun v σ2 hp => ?_)
    obtain ⟨rfl, k4, k5, k6⟩ := hp
    rw [top_lead z1.2] at k4
    exact tail σ2 _ (F2 0) (F 0) (d2 0) (d 0) (by omega) (by omega) (by rw [k6 _ (by omega), k1]; omega) (by rw [k4]; omega) (fun k hk => (k2 k (by omega)).mv (k6 _ (by omega)) (k6 _ (by omega))) (fun k hk => k5 k (by omega)) z2.1 z1.1 z2.2 z1.2 l1b l1a (fun D hD => hD.swap) (fun q h1 h2 => by rw [k6 q (by omega), k3 q (by omega)])
