/-! QUERY: signOn -/
set_option maxHeartbeats 4000000 in
set_option maxRecDepth 100000 in
theorem c_Qu_signOn (l : Launch) (K : pw_K) {L : q_L} {σ : q_S} {qa a B i n M po No e b : Nat} {P G : Nat → Int} {F : Nat → Nat → Int} {d : Nat → Nat} {z lev ls x : Int} (hqL : quL L qa) (hL : heL L a) (hbL : beL L B) (hpo : pL L po No 48) (hdj : a + 177 ≤ B) (hqB : qa = B + 91) (hpo1 : po + 2 + 2 * No ≤ a ∨ a + 177 ≤ po) (hpo2 : po + 2 + 2 * No ≤ B ∨ qa + 145 ≤ po) (hi : i < 8) (hg : gch P n M F d) (hpla : pla (rb (lk F d 0) (cN F d M) B0 i)) (hd1 : 1 ≤ d 0) (hc : cst σ a M F d) (hca : cat σ a i F d M z lev ls x) (heN : e < No) (he8 : e ≤ 8) (hdeg : σ po 1 = e) (hG : ∀ k, k ≤ e → nV σ (po + 2 + 2 * k) 48 (G k)) (hGz : ∀ c, e < c → G c = 0) (hGe : G e ≠ 0) (hGb : l1 G (e + 1) ≤ 2 ^ b) (ok : 1 ≤ e → sok (d 0) e b) (hb : b ≤ 200) : q_C l K L y_Qu_signOn b_Qu_signOn 7 (some .int) 6 [.ref qa, .ref a, .ref (a + 153 + 3 * i), .ref po, .ref B] σ (fun r σ' => (∃ s0 : Int, r = some (vi s0) ∧ sga (lk F d 0) (cN F d M) i (ev G (e + 1)) s0) ∧ nV σ' (a + 153 + 3 * i + 1) 48 z ∧ (∀ q, (q ≤ B ∨ B + 91 ≤ q) → (q ≤ qa ∨ qa + 145 ≤ q) → q ≠ a + 153 + 3 * i + 1 → q ≠ a + 153 + 3 * i + 2 → σ' q = σ q)) := by
  have hqL2 := hqL
  obtain ⟨hq0, hqc, hqt⟩ := hqL
  have hqcL := hqc
  obtain ⟨qc0, ⟨qg, qg1, qg2⟩, qpl⟩ := hqc
  obtain ⟨hH0, -, -, hch, ⟨rg, hrg, hrg2⟩, hroA⟩ := hL
  have hro := hroA i hi
  obtain ⟨hc0, ⟨g, hg1, hg2⟩, hpl⟩ := hch
  have hb0 := hbL.1
  have hbV := hbL.vb
  have hpt : ptL L (B + 25) := hbL.2.2.1
  have h1L : nL L (B + 1) 160 := hbL.2.1 0 (by decide)
  have h3L : nL L (B + 3) 160 := hbL.2.1 1 (by decide)
  have hp0 : pL L (a + 24) 9 48 := hpl 0 (by decide)
  have hp1 : pL L (a + 44) 9 48 := hpl 1 (by decide)
  have hpq : pL L (qa + 37) 9 48 := qpl 1 (by decide)
  have hd8 : d 0 ≤ 8 := by have := hg.cnt; have := hg.2.2.1; omega
  have hNo := hpo.2.2.2
  obtain ⟨s, hs⟩ := hg.rs
  obtain ⟨d1, d2, d3, d4, d5, d6, d7, d8, d9⟩ := hca
  have hLV : LV (d 0) = 572 := rfl
  have hx := d6.x01
  have hE : ptE lev ≤ 572 := ptE_le (by omega)
  have hEm := ptE_m lev
  have hzl : hid ((z.natAbs : Int) < 2147483648 ^ 20) := lim_up (lim_ofI (up_bd d9.lo (show (32 + lev).toNat ≤ 604 by omega))) (by decide)
  have bL : hid ((ptX z lev).natAbs ≤ 2 ^ 605) := pt_bd (Lm := 572) d9.lo d7 (by omega)
  have bH : hid ((ptX (z + 1) lev).natAbs ≤ 2 ^ 605) := pt_bd (Lm := 572) d9.hi d7 (by omega)
  have hz0 : hid (zin z lev) := d9
  clear d9
  have hGc : hid (∀ c, (G c).natAbs ≤ 2 ^ b) := fun c => l1_all hGz hGb c
  refine q_start [some (.ref qa), some (.ref a), some (.ref (a + 153 + 3 * i)), some (.ref po), some (.ref B), none, none] (by decide) (Nat.le_of_ble_eq_true rfl) (fun q h => h) ?_
  refine q_aload_n d_Qu_signOn_0 rfl ?_
  refine q_gi hpo.1 pc_Py 1 (by decide) w_fl_Qu_29 rfl (by rfl) d_Qu_signOn_1 ?_
  refine q_topi hdeg ?_
  refine q_if_gt (tgt := 12) (by omega) d_Qu_signOn_4 (by decide) (fun ce => ?_) (fun ce => ?_)
  · obtain ⟨o1, o2, o3, o4⟩ := ok (by omega)
    refine q_aload d_Qu_signOn_12 rfl ?_
    refine q_gr hb0 pc_Be 12 (by decide) w_fl_Qu_37 rfl (by rfl) d_Qu_signOn_14 ?_
    refine q_ast_5 d_Qu_signOn_17 (by decide) rfl ?_
    refine q_aload_n d_Qu_signOn_19 rfl ?_
    refine q_aload d_Qu_signOn_20 rfl ?_
    refine q_callV (As := [.ref (B + 25)]) (c_Ro_toLow l K (u := 20) hro hpt (by omega) d1 d2 hzl (by omega) (by omega)) w_cd_Ro_toLow w_ini_Ro w_ml_Qu_43 w_im_Ro_toLow w_se_Ro_toLow hro.1 rfl hd_Ro_toLow rfl (Nat.le_of_ble_eq_true rfl) d_Qu_signOn_22 (by decide) (by decide) (fun v σ1 hp => ?_)
    obtain ⟨rfl, k1, k2, k3⟩ := hp
    refine q_aload_n d_Qu_signOn_25 rfl ?_
    refine q_gi hro.1 pc_Ro 4 (by decide) w_fl_Qu_49 rfl (by rfl) d_Qu_signOn_26 ?_
    refine q_topi (show _ = x by rw [k3 _ (by omega) (by omega) (by omega)]; exact d5) ?_
    refine q_if_eq (tgt := 44) (by omega) d_Qu_signOn_29 (by decide) (fun cx => ?_) (fun cx => ?_)
    · have hx0 : x = 0 := cx
      rw [hx0] at d6
      obtain ⟨hM1, l0, l1', hd01⟩ := hg.l1s hd1
      obtain ⟨A1, A2, A3, A4, A5⟩ := d6.in0 hs
      have c0 : d 0 < 9 ∧ σ (a + 24) 1 = (d 0 : Int) ∧ ∀ c, c ≤ d 0 → nV σ (a + 24 + 2 + 2 * c) 48 (F 0 c) := hc.2.2 0 (Nat.zero_le _)
      have c1 : d 1 < 9 ∧ σ (a + 44) 1 = (d 1 : Int) ∧ ∀ c, c ≤ d 1 → nV σ (a + 44 + 2 + 2 * c) 48 (F 1 c) := hc.2.2 1 hM1
      have z0 := hg.zq 0 (by omega)
      have z1 := hg.zq 1 hM1
      have lA : hid (∀ c, (F 1 c).natAbs ≤ 2 ^ (fbm (d 0) + 3)) := fun c => l1_all z1.1 l1' c
      have l0c : hid (∀ c, (F 0 c).natAbs ≤ 2 ^ fbm (d 0)) := fun c => l1_all z0.1 l0 c
      have hfb := fbm_r (d 0)
      have lp1 : hid (∀ t N, l1 (qs (F 1) G t) N ≤ 2 ^ (fbm (d 0) + 3 + b)) := fun t N => by
        rw [Nat.pow_add]
        exact Nat.le_trans (l1_qs hGz N t) (Nat.mul_le_mul (Nat.le_trans (l1_top (fun c hc => z1.1 c (by omega)) t) l1') hGb)
      have lpc : hid (∀ t c, ((qs (F 1) G t c).natAbs : Int) < 2147483648 ^ 47) := fun t c => lim_up (lim_ofI (Nat.le_trans (l1_ge (show c < c + 1 by omega)) (lp1 t (c + 1)))) (by omega)
      have hld : qs (F 1) G (d 1 + 1) (d 1 + e) ≠ 0 := by rw [qs_lead hGz]; exact Int.mul_ne_zero z1.2 hGe
      refine q_aload_n d_Qu_signOn_44 rfl ?_
      refine q_aload_n d_Qu_signOn_45 rfl ?_
      refine q_gr hH0 pc_He 2 (by decide) w_fl_Qu_62 rfl (by rfl) d_Qu_signOn_46 ?_
      refine q_gr hc0 pc_Ch 0 (by decide) w_fl_Qu_65 rfl (by rfl) d_Qu_signOn_49 ?_
      refine q_iconst d_Qu_signOn_52 rfl ?_
      refine q_aal (1) 5 (b := a + 44) rfl hg1 (by omega) (by omega) (by omega) (hg2 1 (by decide)) d_Qu_signOn_53 ?_
      refine q_aload_n d_Qu_signOn_54 rfl ?_
      refine q_aload d_Qu_signOn_55 rfl ?_
      refine q_callV (As := [.ref (a + 44), .ref po, .ref B]) (c_Qu_multiply l K (qa := qa) (m := d 1) (n := e) (A := F 1) (D := G) (u := (fbm (d 0) + 3) / 31 + 1) (v := b / 31 + 1) hqL2 hbL hp1 hpo (by omega) (by omega) (by omega) (by omega) (by omega) (by omega) heN (by omega) (by rw [k3 _ (by omega) (by omega) (by omega)]; exact c1.2.1) (by rw [k3 _ (by omega) (by omega) (by omega)]; exact hdeg) (fun k hk => (c1.2.2 k hk).mv (k3 _ (by omega) (by omega) (by omega)) (k3 _ (by omega) (by omega) (by omega))) (fun k hk => (hG k hk).mv (k3 _ (by omega) (by omega) (by omega)) (k3 _ (by omega) (by omega) (by omega))) hGz (fun k _ => lim_ofI (lA k)) (fun k _ => lim_ofI (hGc k)) (by omega) lpc) w_cd_Qu_multiply w_ini_Qu w_ml_Qu_69 w_im_Qu_multiply w_se_Qu_multiply hq0 rfl hd_Qu_multiply rfl (Nat.le_of_ble_eq_true rfl) d_Qu_signOn_57 (by decide) (by decide) (fun v σ2 hp => ?_)
      obtain ⟨rfl, k4, k5, k6⟩ := hp
      rw [top_lead hld] at k4
      refine q_aload_n d_Qu_signOn_60 rfl ?_
      refine q_gr hq0 pc_Qu 0 (by decide) w_fl_Qu_14 rfl (by rfl) d_Qu_signOn_61 ?_
      refine q_gr qc0 pc_Ch 0 (by decide) w_fl_Qu_65 rfl (by rfl) d_Qu_signOn_64 ?_
      refine q_iconst d_Qu_signOn_67 rfl ?_
      refine q_aal (1) 5 (b := qa + 37) rfl qg1 (by omega) (by omega) (by omega) (qg2 1 (by decide)) d_Qu_signOn_68 ?_
      refine q_aload_n d_Qu_signOn_69 rfl ?_
      refine q_gr hH0 pc_He 2 (by decide) w_fl_Qu_62 rfl (by rfl) d_Qu_signOn_70 ?_
      refine q_gr hc0 pc_Ch 0 (by decide) w_fl_Qu_65 rfl (by rfl) d_Qu_signOn_73 ?_
      refine q_iconst d_Qu_signOn_76 rfl ?_
      refine q_aal (0) 5 (b := a + 24) rfl hg1 (by omega) (by omega) (by omega) (hg2 0 (by decide)) d_Qu_signOn_77 ?_
      refine q_callV (As := [.ref (a + 24)]) (c_Py_copy l K (n := d 0 + 1) (P := F 0) hpq hp0 (by decide) (by omega) (by omega) (by omega) (by rw [k6 _ (by omega) (by omega) (by omega), k3 _ (by omega) (by omega) (by omega), c0.2.1]; omega) (fun k hk => ((c0.2.2 k (by omega)).mv (k3 _ (by omega) (by omega) (by omega)) (k3 _ (by omega) (by omega) (by omega))).mv (k6 _ (by omega) (by omega) (by omega)) (k6 _ (by omega) (by omega) (by omega))) (fun k _ => lim_up (lim_ofI (l0c k)) (by omega))) w_cd_Py_copy w_ini_Py w_ml_Qu_73 w_im_Py_copy w_se_Py_copy hpq.1 rfl hd_Py_copy rfl (Nat.le_of_ble_eq_true rfl) d_Qu_signOn_78 (by decide) (by decide) (fun v σ3 hp => ?_)
      obtain ⟨rfl, k7, k8, k9⟩ := hp
      rw [top_lead z0.2] at k7
      refine q_aload_n d_Qu_signOn_81 rfl ?_
      refine q_gr hq0 pc_Qu 0 (by decide) w_fl_Qu_14 rfl (by rfl) d_Qu_signOn_82 ?_
      refine q_aload d_Qu_signOn_85 rfl ?_
      refine q_callV (As := [.ref B]) (c_Ch_build l K (ch := qa + 1) (h := 16) (f := fbm (d 0) + 3 + b) (g := fbm (d 0)) (n := d 1 + e) (m := d 0) (F0 := qs (F 1) G (d 1 + 1)) (F1 := F 0) hqcL hbL (by omega) (by omega) (by omega) (by omega) (by omega) (by rw [show qa + 1 + chO 16 0 = qa + 3 from rfl, k9 _ (by omega), k4]; omega) (by rw [show qa + 1 + chO 16 1 = qa + 37 from rfl, k7]; omega) (fun k hk => (k5 k hk).mv (k9 _ (by omega)) (k9 _ (by omega))) (fun k hk => k8 k (by omega)) (fun c hc => qs_zero hGz (by omega)) z0.1 hld z0.2 (lp1 _ _) l0 (by rw [show d 1 + e = d 0 - 1 + e by omega]; exact o1)) w_cd_Ch_build w_ini_Ch w_ml_Qu_77 w_im_Ch_build w_se_Ch_build qc0 rfl hd_Ch_build rfl (Nat.le_of_ble_eq_true rfl) d_Qu_signOn_87 (by decide) (by decide) (fun v σ4 hp => ?_)
      obtain ⟨rfl, M', F', d', g0, g1, g2, g3, hM1', hM9', hcs', k10, k11, k12⟩ := hp
      have hcN' : ∀ k, k < M' + 1 → d' k < chN 16 k := by
        intro k hk
        have h9 := hcs'
        obtain ⟨sc, ht, hcc, -⟩ := h9
        unfold chN
        split
        · rename_i e9; subst e9; omega
        · have := cin_deg hcc k (by omega) (by omega)
          omega
      have e216 : chO 16 2 = 56 := rfl
      have fr4 : ∀ q, (q ≤ B ∨ B + 91 ≤ q ∨ (B + 25 ≤ q ∧ q ≤ B + 27)) → (q ≤ qa ∨ qa + 145 ≤ q) → σ4 q = σ1 q := fun q h1 h2 => by rw [k12 q (by omega) (by omega), k9 q (by omega), k6 q (by omega) (by omega) (by omega)]
      have d1b := ((d1.mv (k3 _ (by omega) (by omega) (by omega)) (k3 _ (by omega) (by omega) (by omega))).mv (fr4 _ (by omega) (by omega)) (fr4 _ (by omega) (by omega)))
      obtain ⟨cL, fL1, fL2, fL3⟩ := chs_fit hcs' (by omega) g3 hd1 (by omega) hd8 ⟨o1, o2, o3, o4⟩ bL hE
      obtain ⟨cH, fH1, fH2, fH3⟩ := chs_fit hcs' (by omega) g3 hd1 (by omega) hd8 ⟨o1, o2, o3, o4⟩ bH hE
      refine q_aload_n d_Qu_signOn_90 rfl ?_
      refine q_gr hq0 pc_Qu 0 (by decide) w_fl_Qu_14 rfl (by rfl) d_Qu_signOn_91 ?_
      refine q_aload d_Qu_signOn_94 rfl ?_
      refine q_aload d_Qu_signOn_96 rfl ?_
      refine q_callV (As := [.ref (B + 25), .ref B]) (c_Ch_turned l K (ch := qa + 1) (h := 16) (x := B + 25) (n := M' + 1) (ex := ptE lev) (u := 138) (v := 20) (c := cL) (X := ptX z lev) (F := F') (d := d') (by omega) hqcL hbL hpt (by omega) (by omega) (by omega) k10 (by omega) hcN' (fun k hk => (k11 k (by omega)).1) (fun k hk => (k11 k (by omega)).2) (k1.mv (fr4 _ (by omega) (by omega)) (fr4 _ (by omega) (by omega))) (by rw [fr4 _ (by omega) (by omega)]; exact k2.trans hEm) (by omega) (lim_up (lim_ofI bL) (by decide)) fL1 fL2 (by decide) fL3) w_cd_Ch_turnedChangesAt w_ini_Ch w_ml_Qu_81 w_im_Ch_turnedChangesAt w_se_Ch_turnedChangesAt qc0 rfl hd_Ch_turnedChangesAt rfl (Nat.le_of_ble_eq_true rfl) d_Qu_signOn_98 (by decide) (by decide) (fun v σ5 hp => ?_)
      obtain ⟨rfl, k13⟩ := hp
      refine q_ist_6 d_Qu_signOn_101 (by decide) rfl ?_
      refine q_aload_n d_Qu_signOn_103 rfl ?_
      refine q_aload d_Qu_signOn_104 rfl ?_
      refine q_callV (As := [.ref (B + 25)]) (c_Ro_toHigh l K (u := 20) (lev := lev) hro hpt (by omega) (d1b.mv (k13 _ (by omega)) (k13 _ (by omega))) (by rw [k13 _ (by omega), fr4 _ (by omega) (by omega), k3 _ (by omega) (by omega) (by omega)]; exact d2) hzl (by omega) (by omega)) w_cd_Ro_toHigh w_ini_Ro w_ml_Qu_85 w_im_Ro_toHigh w_se_Ro_toHigh hro.1 rfl hd_Ro_toHigh rfl (Nat.le_of_ble_eq_true rfl) d_Qu_signOn_106 (by decide) (by decide) (fun v σ6 hp => ?_)
      obtain ⟨rfl, k14, ⟨k15, k16⟩, k17⟩ := hp
      refine q_iload d_Qu_signOn_109 rfl ?_
      refine q_aload_n d_Qu_signOn_111 rfl ?_
      refine q_gr hq0 pc_Qu 0 (by decide) w_fl_Qu_14 rfl (by rfl) d_Qu_signOn_112 ?_
      refine q_aload d_Qu_signOn_115 rfl ?_
      refine q_aload d_Qu_signOn_117 rfl ?_
      refine q_callV (As := [.ref (B + 25), .ref B]) (c_Ch_turned l K (ch := qa + 1) (h := 16) (x := B + 25) (n := M' + 1) (ex := ptE lev) (u := 138) (v := 20) (c := cH) (X := ptX (z + 1) lev) (F := F') (d := d') (by omega) hqcL hbL hpt (by omega) (by omega) (by omega) (by rw [k17 _ (by omega) (by omega) (by omega) (by omega) (by omega), k13 _ (by omega)]; exact k10) (by omega) hcN' (fun k hk => by have p1 := chO_end (h := 16) (k := k) (by omega); have p2 := chO_ge (h := 16) (k := k); rw [k17 _ (by omega) (by omega) (by omega) (by omega) (by omega), k13 _ (by omega)]; exact (k11 k (by omega)).1) (fun k hk j hj => by have p1 := chO_end (h := 16) (k := k) (by omega); have p2 := chO_ge (h := 16) (k := k); have p3 := hcN' k hk; exact ((k11 k (by omega)).2 j hj).mv (by rw [k17 _ (by omega) (by omega) (by omega) (by omega) (by omega), k13 _ (by omega)]) (by rw [k17 _ (by omega) (by omega) (by omega) (by omega) (by omega), k13 _ (by omega)])) k15 (k16.trans hEm) (by omega) (lim_up (lim_ofI bH) (by decide)) fH1 fH2 (by decide) fH3) w_cd_Ch_turnedChangesAt w_ini_Ch w_ml_Qu_81 w_im_Ch_turnedChangesAt w_se_Ch_turnedChangesAt qc0 rfl hd_Ch_turnedChangesAt rfl (Nat.le_of_ble_eq_true rfl) d_Qu_signOn_119 (by decide) (by decide) (fun v σ7 hp => ?_)
      obtain ⟨rfl, k18⟩ := hp
      refine q_isub d_Qu_signOn_122 ?_
      have hsg : sga (lk F d 0) (cN F d M) i (ev G (e + 1)) ((vr (fun j => (hv (F' (j + 1)) (d' (j + 1)) (ptX z lev) (ptE lev) (d' (j + 1) + 1)).sign * sgn j) (M' + 1 - 1)).1 - (vr (fun j => (hv (F' (j + 1)) (d' (j + 1)) (ptX (z + 1) lev) (ptE lev) (d' (j + 1) + 1)).sign * sgn j) (M' + 1 - 1)).1) := by
        have e1 : ∀ w : Int, (fun j => (hv (F' (j + 1)) (d' (j + 1)) (ptX w lev) (ptE lev) (d' (j + 1) + 1)).sign * sgn j) = (fun j => sgr (lk F' d' (j + 1) (dy w lev)) * sgn j) := fun w => by
          funext j
          rw [show (hv (F' (j + 1)) (d' (j + 1)) (ptX w lev) (ptE lev) (d' (j + 1) + 1)).sign = sgr (lk F' d' (j + 1) (dy w lev)) from lks_sg F' d' w lev (j + 1)]
        rw [e1, e1, Nat.add_sub_cancel]
        refine tar_sga hg hM1 hcs' hM1' (fun x => ?_) (fun x => ?_) (zin_ab hz0 d7 (Or.inl rfl)) (zin_ab hz0 d7 (Or.inr rfl)) A1 d6.2.1 A2 d6.2.2.1
        · show ev (F' 0) (d' 0 + 1) x = ev (F 1) (d 1 + 1) x * ev G (e + 1) x
          rw [g0, g2, ev_qs (v := G) (m := e + 1) (fun k hk => hGz k (by omega)) (F 1) x (d 1 + e + 1) (d 1 + 1) (by omega)]
        · show ev (F' 1) (d' 1 + 1) x = ev (F 0) (d 0 + 1) x
          rw [g1, g3]
      exact q_iret rfl (⟨⟨_, rfl, hsg⟩, k14.mv (k18 _ (by omega)) (k18 _ (by omega)), fun q h1 h2 h3 h4 => by rw [k18 q (by omega), k17 q (by omega) (by omega) (by omega) (by omega) (by omega), k13 q (by omega), fr4 q (by omega) (by omega), k3 q (by omega) (by omega) (by omega)]⟩) d_Qu_signOn_123
    · refine q_aload d_Qu_signOn_32 rfl ?_
      refine q_aload_n d_Qu_signOn_34 rfl ?_
      refine q_aload d_Qu_signOn_35 rfl ?_
      refine q_callV (As := [.ref po, .ref (B + 25)]) (c_Be_valueAt l K σ1 (x := B + 25) (n := e) (z := 0) (ex := ptE lev) (u := 138) (v := 20) (c := b / 31 + 1) (X := ptX z lev) (P := G) hbV hpo hpt (Or.inl rfl) heN (by omega) (by omega) (by rw [k3 _ (by omega) (by omega) (by omega), hdeg]; omega) (fun j hj => (hG j hj).mv (k3 _ (by omega) (by omega) (by omega)) (k3 _ (by omega) (by omega) (by omega))) k1 (k2.trans hEm) (by omega) (lim_up (lim_ofI bL) (by decide)) (fun j _ => lim_ofI (hGc j)) (fitX hGc he8 o2 bL (by omega)) (by decide) (by have := Nat.div_le_div_right (c := 31) (Nat.mul_le_mul_right e hE); omega)) w_cd_Be_valueAt w_ini_Be w_ml_Qu_53 w_im_Be_valueAt w_se_Be_valueAt hb0 rfl hd_Be_valueAt rfl (Nat.le_of_ble_eq_true rfl) d_Qu_signOn_37 (by decide) (by decide) (fun v σ2 hp => ?_)
      obtain ⟨⟨na, rfl, hna, k4⟩, k5⟩ := hp
      rw [Nat.sub_zero] at k4
      have hnL : nL L na 160 := by rcases hna with h | h <;> rw [h] <;> assumption
      refine q_gi hnL.1.1 pc_Nu 2 (by decide) w_fl_Qu_57 rfl (by rfl) d_Qu_signOn_40 ?_
      refine q_topi k4.sgn ?_
      have hx1 : x = 1 := by omega
      rw [hx1] at d6
      have hsg : sga (lk F d 0) (cN F d M) i (ev G (e + 1)) (hv G e (ptX z lev) (ptE lev) (e + 1)).sign := by
        rw [hv_sg]
        rcases d6.2.2.2.1 with ⟨h8, -⟩ | ⟨-, h8, -⟩
        · exact pt_sga hs (ev_lp _ _) d6.1 h8 ((zin_ab hz0 d7 (Or.inl rfl)).le (by grind))
        · omega
      exact q_iret rfl (⟨⟨_, rfl, hsg⟩, (d1.mv (k3 _ (by omega) (by omega) (by omega)) (k3 _ (by omega) (by omega) (by omega))).mv (k5 _ (by omega)) (k5 _ (by omega)), fun q h1 h2 h3 h4 => by rw [k5 q (by omega), k3 q (by omega) (by omega) (by omega)]⟩) d_Qu_signOn_43
  · refine q_aload_n d_Qu_signOn_7 rfl ?_
    obtain rfl : e = 0 := by omega
    refine q_callV (As := []) (c_Py_leadSign l K (n := 1) (P := G) hpo (by omega) (by rw [hdeg]; rfl) (fun k hk => hG k (by omega))) w_cd_Py_leadSign w_ini_Py w_ml_Qu_33 w_im_Py_leadSign w_se_Py_leadSign hpo.1 rfl hd_Py_leadSign rfl (Nat.le_of_ble_eq_true rfl) d_Qu_signOn_8 (by decide) (by decide) (fun v σ1 hp => ?_)
    obtain ⟨rfl, hσ⟩ := hp
    rw [hσ]
    clear hσ σ1
    exact q_iret rfl (⟨⟨(G 0).sign, rfl, con_sga hpla (fun x => ev_one1 G x) hGe⟩, d1, fun q _ _ _ _ => rfl⟩) d_Qu_signOn_11
