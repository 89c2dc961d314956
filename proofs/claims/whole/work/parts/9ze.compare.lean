/-! QUERY: compare -/
set_option maxHeartbeats 4000000 in
set_option maxRecDepth 100000 in
theorem c_Qu_compare (l : Launch) (K : pw_K) {L : q_L} {σ : q_S} {qa a b B i j n M n2 M2 : Nat} {P P2 : Nat → Int} {F F2 : Nat → Nat → Int} {d d2 : Nat → Nat} {z lev ls x z2 lev2 ls2 x2 : Int} (hqL : quL L qa) (hL : heL L a) (hL2 : heL L b) (hbL : beL L B) (hab : b = a + 177) (hdj : b + 177 ≤ B) (hqB : qa = B + 91) (hi : i < 8) (hj : j < 8) (hg : gch P n M F d) (hg2 : gch P2 n2 M2 F2 d2) (hpla : pla (rb (lk F d 0) (cN F d M) B0 i)) (hd1 : 1 ≤ d 0) (hd2 : 1 ≤ d2 0) (hc : cst σ a M F d) (hc2 : cst σ b M2 F2 d2) (hst : σ a 7 = vlo F d M) (hst2 : σ b 7 = vlo F2 d2 M2) (hca : cat σ a i F d M z lev ls x) (hcb : cat σ b j F2 d2 M2 z2 lev2 ls2 x2) : q_C l K L y_Qu_compare b_Qu_compare 11 (some .int) 7 [.ref qa, .ref a, vi i, .ref b, vi j, .ref B] σ (fun r σ' => (∃ rr : Int, r = some (vi rr) ∧ rcmp (cN F d M) (cN F2 d2 M2) i j rr) ∧ σ' (a + 22) 1 = σ (a + 22) 1 ∧ σ' (b + 22) 1 = σ (b + 22) 1 ∧ nV σ' (a + 153 + 3 * i + 1) 48 z ∧ nV σ' (b + 153 + 3 * j + 1) 48 z2 ∧ (∀ q, (q ≤ B ∨ B + 91 ≤ q) → (q ≤ qa ∨ qa + 145 ≤ q) → q ≠ a + 22 → q ≠ b + 22 → q ≠ a + 153 + 3 * i + 1 → q ≠ a + 153 + 3 * i + 2 → q ≠ b + 153 + 3 * j + 1 → q ≠ b + 153 + 3 * j + 2 → σ' q = σ q)) := by
  have hLa := hL
  have hLb := hL2
  obtain ⟨hH0, -, -, hch, ⟨rg, hrg, hrg2⟩, hroA⟩ := hL
  obtain ⟨hK0, -, -, hkh, ⟨kg, hkg, hkg2⟩, hkoA⟩ := hL2
  have hro := hroA i hi
  have hko := hkoA j hj
  obtain ⟨kc0, ⟨gk, hgk1, hgk2⟩, hkpl⟩ := hkh
  have hpb : pL L (b + 24) 9 48 := hkpl 0 (by decide)
  have hb0 := hbL.1
  have hpt : ptL L (B + 25) := hbL.2.2.1
  have hq0 := hqL.1
  obtain ⟨s, hs⟩ := hg.rs
  obtain ⟨s2, hs2⟩ := hg2.rs
  obtain ⟨a1, a2, a3, a4, a5, a6, a7, a8, a9⟩ := hca
  obtain ⟨b1, b2, b3, b4, b5, b6, b7, b8, b9⟩ := hcb
  have hLV : LV (d 0) = 572 := rfl
  have hLV2 : LV (d2 0) = 572 := rfl
  have hx := a6.x01
  have hx2 := b6.x01
  have hd8 : d 0 ≤ 8 := by have := hg.cnt; have := hg.2.2.1; omega
  have hd8b : d2 0 ≤ 8 := by have := hg2.cnt; have := hg2.2.2.1; omega
  have hE : ptE lev ≤ 572 := ptE_le (by omega)
  have hE2 : ptE lev2 ≤ 572 := ptE_le (by omega)
  have hEm := ptE_m lev
  have hEm2 := ptE_m lev2
  have hzl : hid ((z.natAbs : Int) < 2147483648 ^ 20) := lim_up (lim_ofI (up_bd a9.lo (show (32 + lev).toNat ≤ 604 by omega))) (by decide)
  have hzl2 : hid ((z2.natAbs : Int) < 2147483648 ^ 20) := lim_up (lim_ofI (up_bd b9.lo (show (32 + lev2).toNat ≤ 604 by omega))) (by decide)
  have bL : hid ((ptX z lev).natAbs ≤ 2 ^ 605) := pt_bd (Lm := 572) a9.lo a7 (by omega)
  have bL2 : hid ((ptX z2 lev2).natAbs ≤ 2 ^ 605) := pt_bd (Lm := 572) b9.lo b7 (by omega)
  have bH2 : hid ((ptX (z2 + 1) lev2).natAbs ≤ 2 ^ 605) := pt_bd (Lm := 572) b9.hi b7 (by omega)
  have hz0 : hid (zin z lev) := a9
  have hz2 : hid (zin z2 lev2) := b9
  clear a9 b9
  refine q_start [some (.ref qa), some (.ref a), some (vi i), some (.ref b), some (vi j), some (.ref B), none, none, none, none, none] (by decide) (Nat.le_of_ble_eq_true rfl) (fun q h => h) ?_
  refine q_aload_n d_Qu_compare_0 rfl ?_
  refine q_gr hH0 pc_He 3 (by decide) w_fl_Qu_132 rfl (by rfl) d_Qu_compare_1 ?_
  refine q_iload_n d_Qu_compare_4 rfl ?_
  refine q_aal (i) 6 (b := a + 153 + 3 * i) rfl hrg (by omega) (by omega) (by omega) (hrg2 _ hi) d_Qu_compare_5 ?_
  refine q_ast_6 d_Qu_compare_6 (by decide) rfl ?_
  refine q_aload_n d_Qu_compare_8 rfl ?_
  refine q_gr hK0 pc_He 3 (by decide) w_fl_Qu_132 rfl (by rfl) d_Qu_compare_9 ?_
  refine q_iload d_Qu_compare_12 rfl ?_
  refine q_aal (j) 6 (b := b + 153 + 3 * j) rfl hkg (by omega) (by omega) (by omega) (hkg2 _ hj) d_Qu_compare_14 ?_
  refine q_ast_7 d_Qu_compare_15 (by decide) rfl ?_
  refine q_aload d_Qu_compare_17 rfl ?_
  refine q_gr hb0 pc_Be 12 (by decide) w_fl_Qu_37 rfl (by rfl) d_Qu_compare_19 ?_
  refine q_ast_8 d_Qu_compare_22 (by decide) rfl ?_
  refine q_aload d_Qu_compare_24 rfl ?_
  refine q_gi hro.1 pc_Ro 4 (by decide) w_fl_Qu_49 rfl (by rfl) d_Qu_compare_26 ?_
  refine q_topi a5 ?_
  refine q_if_eq (tgt := 51) (by omega) d_Qu_compare_29 (by decide) (fun cx => ?_) (fun cx => ?_)
  · refine q_aload d_Qu_compare_51 rfl ?_
    refine q_aload d_Qu_compare_53 rfl ?_
    refine q_callV (As := [.ref (B + 25)]) (c_Ro_toLow l K (u := 20) hko hpt (by omega) b1 b2 hzl2 (by omega) (by omega)) w_cd_Ro_toLow w_ini_Ro w_ml_Qu_43 w_im_Ro_toLow w_se_Ro_toLow hko.1 rfl hd_Ro_toLow rfl (Nat.le_of_ble_eq_true rfl) d_Qu_compare_55 (by decide) (by decide) (fun v σ1 hp => ?_)
    obtain ⟨rfl, k1, k2, k3⟩ := hp
    have hx0 : x = 0 := cx
    rw [hx0] at a6
    refine q_aload_n d_Qu_compare_58 rfl ?_
    refine q_iload_n d_Qu_compare_59 rfl ?_
    refine q_aload d_Qu_compare_60 rfl ?_
    refine q_aload d_Qu_compare_62 rfl ?_
    refine q_callV (As := [vi i, .ref (B + 25), .ref B]) (al_He_sideOf l K (i := (i : Int)) hLa hbL hpt (by omega) rfl hg (hc.mv (by rw [k3 _ (by omega) (by omega) (by omega)]) (fun q h1 h2 => k3 q (by omega) (by omega) (by omega))) (by rw [k3 _ (by omega) (by omega) (by omega)]; exact hst) k1 (k2.trans hEm2) bL2 hE2 (by omega)) w_cd_He_sideOf w_ini_He w_ml_Qu_136 w_im_He_sideOf w_se_He_sideOf hH0 rfl hd_He_sideOf rfl (Nat.le_of_ble_eq_true rfl) d_Qu_compare_64 (by decide) (by decide) (fun v σ2 hp => ?_)
    obtain ⟨rfl, k4, k5⟩ := hp
    have fr2 : ∀ q, (q ≤ B ∨ B + 91 ≤ q) → q ≠ a + 22 → σ2 q = σ q := fun q h1 h2 => by rw [k5 q (by omega) h2, k3 q (by omega) (by omega) (by omega)]
    have k4b : σ2 (a + 22) 1 = σ (a + 22) 1 := by rw [k4, k3 _ (by omega) (by omega) (by omega)]
    have s1 := sdo_b (lk F d 0) (cN F d M) i (dy z2 lev2)
    refine q_ist_9 d_Qu_compare_67 (by decide) rfl ?_
    refine q_aload d_Qu_compare_69 rfl ?_
    refine q_gi hko.1 pc_Ro 4 (by decide) w_fl_Qu_49 rfl (by rfl) d_Qu_compare_71 ?_
    refine q_topi (show _ = x2 by rw [fr2 _ (by omega) (by omega)]; exact b5) ?_
    refine q_if_ne (tgt := 82) (by omega) d_Qu_compare_74 (by decide) (fun cx2 => ?_) (fun cx2 => ?_)
    · refine q_aload d_Qu_compare_82 rfl ?_
      refine q_gi hko.1 pc_Ro 4 (by decide) w_fl_Qu_49 rfl (by rfl) d_Qu_compare_84 ?_
      refine q_topi (show _ = x2 by rw [fr2 _ (by omega) (by omega)]; exact b5) ?_
      refine q_if_eq (tgt := 95) (by omega) d_Qu_compare_87 (by decide) (fun c87 => absurd c87 (by omega)) (fun c87 => ?_)
      refine q_iload d_Qu_compare_90 rfl ?_
      refine q_goto (tgt := 96) d_Qu_compare_92 (by decide) ?_
      have hx1 : x2 = 1 := by omega
      rw [hx1] at b6
      have hq1 : lk F2 d2 0 (dy z2 lev2) = 0 := by rcases b6.2.2.2.1 with ⟨h8, -⟩ | ⟨-, h8, -⟩; exact h8; omega
      have hcm := cmp_f (i := (i : Int)) (j := (j : Int)) hs hs2 b6.1 (by rw [(nm_N (lk F2 d2 0) (cN F2 d2 M2) (dy z2 lev2)).2.2.1 hq1, b6.1])
      exact q_iret rfl (⟨⟨_, rfl, hcm⟩, k4b, by rw [fr2 _ (by omega) (by omega)], a1.mv (fr2 _ (by omega) (by omega)) (fr2 _ (by omega) (by omega)), b1.mv (fr2 _ (by omega) (by omega)) (fr2 _ (by omega) (by omega)), fun q h1 h2 h3 h4 h5 h6 h7 h8 => fr2 q h1 h3⟩) d_Qu_compare_96
    · have hx20 : x2 = 0 := by omega
      rw [hx20] at b6
      obtain ⟨B1, B2, B3, B4, B5⟩ := b6.in0 hs2
      refine q_iload d_Qu_compare_77 rfl ?_
      refine q_if_gt (tgt := 97) (by omega) d_Qu_compare_79 (by decide) (fun cg => ?_) (fun cg => ?_)
      · refine q_aload d_Qu_compare_97 rfl ?_
        refine q_aload d_Qu_compare_99 rfl ?_
        refine q_callV (As := [.ref (B + 25)]) (c_Ro_toHigh l K (u := 20) (lev := lev2) hko hpt (by omega) (b1.mv (fr2 _ (by omega) (by omega)) (fr2 _ (by omega) (by omega))) (by rw [fr2 _ (by omega) (by omega)]; exact b2) hzl2 (by omega) (by omega)) w_cd_Ro_toHigh w_ini_Ro w_ml_Qu_85 w_im_Ro_toHigh w_se_Ro_toHigh hko.1 rfl hd_Ro_toHigh rfl (Nat.le_of_ble_eq_true rfl) d_Qu_compare_101 (by decide) (by decide) (fun v σ3 hp => ?_)
        obtain ⟨rfl, k6, ⟨k7, k8⟩, k9⟩ := hp
        refine q_aload_n d_Qu_compare_104 rfl ?_
        refine q_iload_n d_Qu_compare_105 rfl ?_
        refine q_aload d_Qu_compare_106 rfl ?_
        refine q_aload d_Qu_compare_108 rfl ?_
        refine q_callV (As := [vi i, .ref (B + 25), .ref B]) (al_He_sideOf l K (i := (i : Int)) hLa hbL hpt (by omega) rfl hg (hc.mv (by rw [k9 _ (by omega) (by omega) (by omega) (by omega) (by omega)]; exact k4b) (fun q h1 h2 => by rw [k9 q (by omega) (by omega) (by omega) (by omega) (by omega), fr2 q (by omega) (by omega)])) (by rw [k9 _ (by omega) (by omega) (by omega) (by omega) (by omega), fr2 _ (by omega) (by omega)]; exact hst) k7 (k8.trans hEm2) bH2 hE2 (by omega)) w_cd_He_sideOf w_ini_He w_ml_Qu_136 w_im_He_sideOf w_se_He_sideOf hH0 rfl hd_He_sideOf rfl (Nat.le_of_ble_eq_true rfl) d_Qu_compare_110 (by decide) (by decide) (fun v σ4 hp => ?_)
        obtain ⟨rfl, k10, k11⟩ := hp
        have fr4 : ∀ q, (q ≤ B ∨ B + 91 ≤ q) → q ≠ a + 22 → q ≠ b + 153 + 3 * j + 1 → q ≠ b + 153 + 3 * j + 2 → σ4 q = σ q := fun q h1 h2 h3 h4 => by rw [k11 q (by omega) h2, k9 q (by omega) (by omega) (by omega) (by omega) (by omega), fr2 q h1 h2]
        have k10b : σ4 (a + 22) 1 = σ (a + 22) 1 := by rw [k10, k9 _ (by omega) (by omega) (by omega) (by omega) (by omega)]; exact k4b
        have k6b := k6.mv (k11 _ (by omega) (by omega)) (k11 _ (by omega) (by omega))
        have s2' := sdo_b (lk F d 0) (cN F d M) i (dy (z2 + 1) lev2)
        refine q_if_lt (tgt := 118) (by omega) d_Qu_compare_113 (by decide) (fun cl => ?_) (fun cl => ?_)
        · obtain ⟨-, l0, -, -⟩ := hg2.l1s hd2
          have l0 : hid _ := l0
          have zq2 := hg2.zq 0 (by omega)
          have cs4 : cst σ4 a M F d := hc.mv k10b (fun q h1 h2 => fr4 q (by omega) (by omega) (by omega) (by omega))
          have fRa : σ4 (a + 153 + 3 * i) = σ (a + 153 + 3 * i) := fr4 _ (by omega) (by omega) (by omega) (by omega)
          have ca4 : hid (cat σ4 a i F d M z lev ls 0) := ⟨a1.mv (fr4 _ (by omega) (by omega) (by omega) (by omega)) (fr4 _ (by omega) (by omega) (by omega) (by omega)), by rw [fRa]; exact a2, by rw [fRa]; exact a3, by rw [fRa]; exact a4, by rw [fRa]; exact a5.trans hx0, a6, a7, a8, hz0⟩
          have cb4 : d2 0 < 9 ∧ σ4 (b + 24) 1 = (d2 0 : Int) ∧ ∀ c, c ≤ d2 0 → nV σ4 (b + 24 + 2 + 2 * c) 48 (F2 0 c) := (hc2.mv (σ' := σ4) (by rw [fr4 _ (by omega) (by omega) (by omega) (by omega)]) (fun q h1 h2 => fr4 q (by omega) (by omega) (by omega) (by omega))).2.2 0 (Nat.zero_le _)
          refine q_aload_n d_Qu_compare_118 rfl ?_
          refine q_aload_n d_Qu_compare_119 rfl ?_
          refine q_aload d_Qu_compare_120 rfl ?_
          refine q_aload_n d_Qu_compare_122 rfl ?_
          refine q_gr hK0 pc_He 2 (by decide) w_fl_Qu_62 rfl (by rfl) d_Qu_compare_123 ?_
          refine q_gr kc0 pc_Ch 0 (by decide) w_fl_Qu_65 rfl (by rfl) d_Qu_compare_126 ?_
          refine q_iconst d_Qu_compare_129 rfl ?_
          refine q_aal (0) 5 (b := b + 24) rfl hgk1 (by omega) (by omega) (by omega) (hgk2 0 (by decide)) d_Qu_compare_130 ?_
          refine q_aload d_Qu_compare_131 rfl ?_
          refine q_callV (As := [.ref a, .ref (a + 153 + 3 * i), .ref (b + 24), .ref B]) (c_Qu_signOn l K (No := 9) (e := d2 0) (b := fbm (d2 0)) (G := F2 0) hqL hLa hbL hpb (by omega) hqB (by omega) (by omega) hi hg hpla hd1 cs4 ca4 cb4.1 hd8b cb4.2.1 cb4.2.2 zq2.1 zq2.2 l0 (fun _ => sok_c (d 0) (by omega) hd1 (d2 0) (by omega) hd2) (by have := (fbm_r (d2 0)).2; omega)) w_cd_Qu_signOn w_ini_Qu w_ml_Qu_128 w_im_Qu_signOn w_se_Qu_signOn hq0 rfl hd_Qu_signOn rfl (Nat.le_of_ble_eq_true rfl) d_Qu_compare_133 (by decide) (by decide) (fun v σ5 hp => ?_)
          obtain ⟨⟨s0, rfl, hsg⟩, k12, k13⟩ := hp
          have hsb := hsg.b
          obtain ⟨hdf, uu, ww, pu, pw, bq⟩ := hg2.bzq hd2
          have hlo : (cN F d M) (dy z2 lev2) ≤ (i : Int) := by
            rcases sdo_r (i := (i : Int)) hs (dy z2 lev2) with ⟨h8, h9⟩ | ⟨h8, h9, h10⟩ | ⟨h8, h9⟩
            · omega
            · omega
            · exact h9
          have hhi : (i : Int) < nm (lk F d 0) (cN F d M) (dy (z2 + 1) lev2) := by
            rcases sdo_r (i := (i : Int)) hs (dy (z2 + 1) lev2) with ⟨h8, h9⟩ | ⟨h8, h9, h10⟩ | ⟨h8, h9⟩
            · exact h9
            · omega
            · omega
          have hcm := cmp_mid (i := (i : Int)) (j := (j : Int)) hs hs2 hdf (ev_lp _ _) pu.lp pw.lp bq (zin_ab hz2 b7 (Or.inl rfl)) (zin_ab hz2 b7 (Or.inr rfl)) hlo hhi B1 b6.2.1 B2 b6.2.2.1 hpla hsg
          rw [B3] at hcm
          have fr5 : (∀ q, (q ≤ B ∨ B + 91 ≤ q) → (q ≤ qa ∨ qa + 145 ≤ q) → q ≠ a + 22 → q ≠ b + 22 → q ≠ a + 153 + 3 * i + 1 → q ≠ a + 153 + 3 * i + 2 → q ≠ b + 153 + 3 * j + 1 → q ≠ b + 153 + 3 * j + 2 → σ5 q = σ q) := fun q h1 h2 h3 h4 h5 h6 h7 h8 => by rw [k13 q h1 h2 h5 h6]; exact fr4 q h1 h3 h7 h8
          have kp : σ5 (a + 22) 1 = σ (a + 22) 1 ∧ σ5 (b + 22) 1 = σ (b + 22) 1 ∧ nV σ5 (a + 153 + 3 * i + 1) 48 z ∧ nV σ5 (b + 153 + 3 * j + 1) 48 z2 ∧ (∀ q, (q ≤ B ∨ B + 91 ≤ q) → (q ≤ qa ∨ qa + 145 ≤ q) → q ≠ a + 22 → q ≠ b + 22 → q ≠ a + 153 + 3 * i + 1 → q ≠ a + 153 + 3 * i + 2 → q ≠ b + 153 + 3 * j + 1 → q ≠ b + 153 + 3 * j + 2 → σ5 q = σ q) := ⟨by rw [k13 _ (by omega) (by omega) (by omega) (by omega)]; exact k10b, by rw [k13 _ (by omega) (by omega) (by omega) (by omega), fr4 _ (by omega) (by omega) (by omega) (by omega)], k12, k6b.mv (k13 _ (by omega) (by omega) (by omega) (by omega)) (k13 _ (by omega) (by omega) (by omega) (by omega)), fr5⟩
          refine q_ist_10 d_Qu_compare_136 (by decide) rfl ?_
          refine q_iload d_Qu_compare_138 rfl ?_
          refine q_if_ne (tgt := 145) (by omega) d_Qu_compare_140 (by decide) (fun c0 => ?_) (fun c0 => ?_)
          · refine q_iload d_Qu_compare_145 rfl ?_
            refine q_aload d_Qu_compare_147 rfl ?_
            refine q_gi hko.1 pc_Ro 2 (by decide) w_fl_Qu_140 rfl (by rfl) d_Qu_compare_149 ?_
            refine q_topi (show _ = ls2 by rw [k13 _ (by omega) (by omega) (by omega) (by omega), fr4 _ (by omega) (by omega) (by omega) (by omega)]; exact b3) ?_
            refine q_icmp_ne (tgt := 159) (by omega) (by omega) d_Qu_compare_152 (by decide) (fun ce => ?_) (fun ce => ?_)
            · refine q_iconst d_Qu_compare_159 rfl ?_
              exact q_iret rfl (⟨⟨1, rfl, by rw [if_neg c0, if_neg ce] at hcm; exact hcm⟩, kp⟩) d_Qu_compare_160
            · refine q_iconst d_Qu_compare_155 rfl ?_
              refine q_goto (tgt := 160) d_Qu_compare_156 (by decide) ?_
              exact q_iret rfl (⟨⟨-1, rfl, by rw [if_neg c0, if_pos ce] at hcm; exact hcm⟩, kp⟩) d_Qu_compare_160
          · refine q_iconst d_Qu_compare_143 rfl ?_
            exact q_iret rfl (⟨⟨0, rfl, by rw [if_pos c0] at hcm; exact hcm⟩, kp⟩) d_Qu_compare_144
        · refine q_iconst d_Qu_compare_116 rfl ?_
          have hcm := cmp_high (i := (i : Int)) (j := (j : Int)) hs hs2 (y1 := dy (z2 + 1) lev2) (by omega) b6.2.1 b6.2.2.1
          exact q_iret rfl (⟨⟨_, rfl, hcm⟩, k10b, by rw [fr4 _ (by omega) (by omega) (by omega) (by omega)], a1.mv (fr4 _ (by omega) (by omega) (by omega) (by omega)) (fr4 _ (by omega) (by omega) (by omega) (by omega)), k6b, fun q h1 h2 h3 h4 h5 h6 h7 h8 => fr4 q h1 h3 h7 h8⟩) d_Qu_compare_117
      · refine q_aload d_Qu_compare_82 rfl ?_
        refine q_gi hko.1 pc_Ro 4 (by decide) w_fl_Qu_49 rfl (by rfl) d_Qu_compare_84 ?_
        refine q_topi (show _ = x2 by rw [fr2 _ (by omega) (by omega)]; exact b5) ?_
        refine q_if_eq (tgt := 95) (by omega) d_Qu_compare_87 (by decide) (fun c87 => ?_) (fun c87 => absurd c87 (by omega))
        refine q_iconst d_Qu_compare_95 rfl ?_
        have hcm := cmp_low (i := (i : Int)) (j := (j : Int)) (N' := (cN F2 d2 M2)) hs (y0 := dy z2 lev2) (by omega) B1
        exact q_iret rfl (⟨⟨_, rfl, hcm⟩, k4b, by rw [fr2 _ (by omega) (by omega)], a1.mv (fr2 _ (by omega) (by omega)) (fr2 _ (by omega) (by omega)), b1.mv (fr2 _ (by omega) (by omega)) (fr2 _ (by omega) (by omega)), fun q h1 h2 h3 h4 h5 h6 h7 h8 => fr2 q h1 h3⟩) d_Qu_compare_96
  · refine q_aload d_Qu_compare_32 rfl ?_
    refine q_aload d_Qu_compare_34 rfl ?_
    refine q_callV (As := [.ref (B + 25)]) (c_Ro_toLow l K (u := 20) hro hpt (by omega) a1 a2 hzl (by omega) (by omega)) w_cd_Ro_toLow w_ini_Ro w_ml_Qu_43 w_im_Ro_toLow w_se_Ro_toLow hro.1 rfl hd_Ro_toLow rfl (Nat.le_of_ble_eq_true rfl) d_Qu_compare_36 (by decide) (by decide) (fun v σ1 hp => ?_)
    obtain ⟨rfl, k1, k2, k3⟩ := hp
    refine q_aload_n d_Qu_compare_39 rfl ?_
    refine q_iload d_Qu_compare_40 rfl ?_
    refine q_aload d_Qu_compare_42 rfl ?_
    refine q_aload d_Qu_compare_44 rfl ?_
    refine q_callV (As := [vi j, .ref (B + 25), .ref B]) (al_He_sideOf l K (i := (j : Int)) hLb hbL hpt hdj rfl hg2 (hc2.mv (by rw [k3 _ (by omega) (by omega) (by omega)]) (fun q h1 h2 => k3 q (by omega) (by omega) (by omega))) (by rw [k3 _ (by omega) (by omega) (by omega)]; exact hst2) k1 (k2.trans hEm) bL hE (by omega)) w_cd_He_sideOf w_ini_He w_ml_Qu_136 w_im_He_sideOf w_se_He_sideOf hK0 rfl hd_He_sideOf rfl (Nat.le_of_ble_eq_true rfl) d_Qu_compare_46 (by decide) (by decide) (fun v σ2 hp => ?_)
    obtain ⟨rfl, k4, k5⟩ := hp
    refine q_ineg d_Qu_compare_49 ?_
    have hx1 : x = 1 := by omega
    rw [hx1] at a6
    have hq1 : lk F d 0 (dy z lev) = 0 := by rcases a6.2.2.2.1 with ⟨h8, -⟩ | ⟨-, h8, -⟩; exact h8; omega
    have hcm := cmp_e (i := (i : Int)) (j := (j : Int)) hs hs2 a6.1 (by rw [(nm_N (lk F d 0) (cN F d M) (dy z lev)).2.2.1 hq1, a6.1])
    exact q_iret rfl (⟨⟨_, rfl, hcm⟩, by rw [k5 _ (by omega) (by omega), k3 _ (by omega) (by omega) (by omega)], by rw [k4, k3 _ (by omega) (by omega) (by omega)], (a1.mv (k3 _ (by omega) (by omega) (by omega)) (k3 _ (by omega) (by omega) (by omega))).mv (k5 _ (by omega) (by omega)) (k5 _ (by omega) (by omega)), (b1.mv (k3 _ (by omega) (by omega) (by omega)) (k3 _ (by omega) (by omega) (by omega))).mv (k5 _ (by omega) (by omega)) (k5 _ (by omega) (by omega)), fun q h1 h2 h3 h4 h5 h6 h7 h8 => by rw [k5 q (by omega) (by omega), k3 q (by omega) (by omega) (by omega)]⟩) d_Qu_compare_50
