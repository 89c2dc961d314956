/-! THE REFERENCE: signAt -/
set_option maxHeartbeats 4000000 in
set_option maxRecDepth 100000 in
theorem a_Mo_signAt (l : Launch) (K : pw_K) {L : q_L} {σ : q_S} {m p o i n n2 M M2 e : Nat} {P P2 G : Nat → Int} {F F2 : Nat → Nat → Int} {d d2 : Nat → Nat} (hL : mL L m) (hp : p < 2) (ho : o = 1 - p) (hg : gch P n M F d) (hg2 : gch P2 n2 M2 F2 d2) (h1 : 1 ≤ d 0) (h12 : 1 ≤ d2 0) (hi : (i : Int) < vlo F d M - vhi F d M) (hgd : gdv (F 0) (d 0) (F2 0) (d2 0) G e) (hnv : ¬ vz (rb (lk F d 0) (cN F d M) B0 (i : Int)) (ev G (e + 1))) : ∀ (f j : Nat) (v5 v6 : Option Value) (C x : Int), 44 ≤ j → j + f = 1690 → ∀ (σ1 : q_S), mq σ1 m p F d → mq σ1 m o F2 d2 → plr σ1 m o P2 n2 → kat σ1 m p i F d M C j x → mkp σ σ1 m → q_T l K L R_Mo b_Mo_signAt 7 (some .int) 7 (fun r σ' => (∃ (M : Nat) (F : Nat → Nat → Int) (d : Nat → Nat), gch P n M F d ∧ ∃ s0 : Int, r = some (vi s0) ∧ sga (lk F d 0) (cN F d M) (i : Int) (ev P2 (n2 + 1)) s0) ∧ mkp σ σ' m) 127 [some (.ref m), some (vi p), some (vi i), some (vi o), some (vi 0), v5, v6] [] σ1 := by
  have hLL := hL
  obtain ⟨hM0, hM1, hM2, hM3, hM4, hM5, hM6, hM7, hM8, hM9⟩ := hL
  have hcn := hg.cnt
  have hn8 := hg.2.2.1
  have hcn2 := hg2.cnt
  have hn82 := hg2.2.2.1
  obtain ⟨sN, hsN⟩ := hg.rs
  have hi2 : (0 : Int) ≤ (i : Int) ∧ (i : Int) < vlo F d M - vhi F d M := ⟨by omega, hi⟩
  have hpl := hg.pla (re := 32) (i := (i : Int)) (Or.inl rfl) (by omega) hi2
  have hvq := hg.vzq (re := 32) (i := (i : Int)) (Or.inl rfl) (by omega) hi2
  have hnv2 : ¬ vz (rb (lk F d 0) (cN F d M) B0 (i : Int)) (ev P2 (n2 + 1)) := fun h9 => hnv ((hgd.2.2.2.2.vz (pl.ev _ _) (pl.ev _ _) hpl hvq).2 ((gch_vzP hg2 hpl).1 h9))
  have hb2 : hid (∀ k, ((P2 k).natAbs) ≤ 2 ^ 55) := fun k => Nat.le_trans (hg2.2.2.2.1 k) (by decide)
  intro f
  induction f using Nat.strongRecOn with
  | _ f ih =>
    intro j v5 v6 C x hj hf σ1 f1 f2 f3 f4 f5
    have hrc := f4.2.2.2
    have hfr := hg.fitR hrc.1 hrc.2.1 (show j ≤ 1989 by omega)
    have hfd := hg2.fitD hrc.1 hrc.2.1 (show j ≤ 1700 by omega)
    have hw4 : 4 + (j - 44) * d2 0 / 16 + 1 ≤ 970 := by
      have h3 : (j - 44) * d2 0 ≤ 1700 * 8 := Nat.mul_le_mul (by omega) (by omega)
      have h4 := Nat.div_le_div_right (c := 16) h3
      omega
    have hw5 : 4 + (j - 44) * n2 / 16 + 1 ≤ 1023 := by
      have h3 : (j - 44) * n2 ≤ 1700 * 8 := Nat.mul_le_mul (by omega) (by omega)
      have h4 := Nat.div_le_div_right (c := 16) h3
      omega
    have hLb : hid ((lowv C j).natAbs ≤ 2 ^ 1990) := Nat.le_trans (low_bd hrc.1 (Int.le_of_lt hrc.2.1)) (Nat.pow_le_pow_right (n := 2) (by omega) (show 43 + (j - 44) ≤ 1990 by omega))
    have x01 : x = 1 ∨ x = 0 := by rcases hrc.2.2 with ⟨h9, -⟩ | ⟨h9, -⟩ <;> omega
    have hsv : (hv P2 n2 (lowv C j) (j - 44) (n2 + 1)).sign = sgr (ev P2 (n2 + 1) (xl C j)) := hv_sg _ _ _ _
    refine q_iload d_Mo_signAt_127 rfl ?_
    refine q_if_ne (tgt := 234) (by decide) d_Mo_signAt_129 (by decide) (fun c129 => absurd c129 (by decide)) (fun c129 => ?_)
    refine q_aload_n d_Mo_signAt_132 rfl ?_
    refine q_bipush d_Mo_signAt_133 (by decide) ?_
    refine q_iload_n d_Mo_signAt_135 rfl ?_
    refine q_iload_n d_Mo_signAt_136 rfl ?_
    refine q_callV (As := [vi 113, vi p, vi i]) (c_Mo_lowOf l K (o := 113) (p := p) (i := i) (j := j) (u := 126) hLL (by decide) (by decide) hp (by omega) f4.2.1 f4.1 hfr.1 (by omega) (by decide)) w_cd_Mo_lowOf w_ini_Mo w_ml_Mo_162 w_im_Mo_lowOf w_se_Mo_lowOf hM0 rfl hd_Mo_lowOf rfl (Nat.le_of_ble_eq_true rfl) d_Mo_signAt_137 (by decide) (by decide) (fun v σ2 hp => ?_)
    obtain ⟨rfl, b113σ2, b1σ2, b2σ2⟩ := hp
    have scσ2 : scr σ1 σ2 m := ⟨b1σ2, fun r h => b2σ2 r (by omega) (by omega)⟩
    have g1 := f1.scr hp (by omega) scσ2
    have g2 := f2.scr (by omega) (by omega) scσ2
    have g3 := scσ2.pl (by omega) hn82 f3
    have g4 := scσ2.ka f4
    have g5 := f5.trans scσ2.mk
    refine q_ist_5 d_Mo_signAt_140 (by decide) rfl ?_
    refine q_aload_n d_Mo_signAt_142 rfl ?_
    refine q_gr hM0 pc_Mo 6 (by decide) w_fl_Mo_26 rfl (by rfl) d_Mo_signAt_143 ?_
    refine q_bipush d_Mo_signAt_146 (by decide) ?_
    refine q_iload_n d_Mo_signAt_148 rfl ?_
    refine q_imul d_Mo_signAt_149 ?_
    refine q_iload_n d_Mo_signAt_150 rfl ?_
    refine q_iadd d_Mo_signAt_151 ?_
    refine q_zal (8 * p + i) (by assumption) (by omega) (by omega) (by omega) d_Mo_signAt_152 ?_
    refine q_topi g4.2.2.1 ?_
    rcases x01 with hx | hx <;> subst hx
    · refine q_if_ne (tgt := 183) (by decide) d_Mo_signAt_153 (by decide) (fun c153 => ?_) (fun c153 => absurd c153 (by decide))
      refine q_iconst d_Mo_signAt_183 rfl ?_
      refine q_goto (tgt := 188) d_Mo_signAt_184 (by decide) ?_
      refine q_ist_6 d_Mo_signAt_188 (by decide) rfl ?_
      refine q_aload_n d_Mo_signAt_190 rfl ?_
      refine q_bipush d_Mo_signAt_191 (by decide) ?_
      refine q_iload_n d_Mo_signAt_193 rfl ?_
      refine q_iload_n d_Mo_signAt_194 rfl ?_
      refine q_callV (As := [vi 113, vi p, vi i]) (c_Mo_lowOf l K (o := 113) (p := p) (i := i) (j := j) (u := 126) hLL (by decide) (by decide) hp (by omega) g4.2.1 g4.1 hfr.1 (by omega) (by decide)) w_cd_Mo_lowOf w_ini_Mo w_ml_Mo_162 w_im_Mo_lowOf w_se_Mo_lowOf hM0 rfl hd_Mo_lowOf rfl (Nat.le_of_ble_eq_true rfl) d_Mo_signAt_195 (by decide) (by decide) (fun v σ3 hp => ?_)
      obtain ⟨rfl, b113σ3, b1σ3, b2σ3⟩ := hp
      have scσ3 : scr σ2 σ3 m := ⟨b1σ3, fun r h => b2σ3 r (by omega) (by omega)⟩
      have m1 := g1.scr hp (by omega) scσ3
      have m2 := g2.scr (by omega) (by omega) scσ3
      have m3 := scσ3.pl (by omega) hn82 g3
      have m4 := scσ3.ka g4
      have m5 := g5.trans scσ3.mk
      refine q_ist_5 d_Mo_signAt_198 (by decide) rfl ?_
      refine q_iload d_Mo_signAt_200 rfl ?_
      refine q_if_eq (tgt := 217) (by decide) d_Mo_signAt_202 (by decide) (fun c202 => absurd c202 (by decide)) (fun c202 => ?_)
      refine q_aload_n d_Mo_signAt_205 rfl ?_
      refine q_iload_n d_Mo_signAt_206 rfl ?_
      refine q_bipush d_Mo_signAt_207 (by decide) ?_
      refine q_iload d_Mo_signAt_209 rfl ?_
      refine q_callV (As := [vi o, vi 113, vi ((j - 44 : Nat) : Int)]) (c_Mo_signOf l K σ3 (p := o) (w := 113) (n := n2) (ex := j - 44) (u := 876) (v := 126) (c := 4) (X := lowv C j) (P := P2) hLL (by omega) (by decide) (by decide) (by decide) hn82 (by omega) m3.1 m3.2 b113σ3 (lh16 hLb (by decide)) (fun k _ => lh16 (x := 55) (hb2 k) (by decide)) (fun i hi => hv_876 hb2 hLb (by omega) (by omega)) (by decide) hw5) w_cd_Mo_signOf w_ini_Mo w_ml_Mo_131 w_im_Mo_signOf w_se_Mo_signOf hM0 rfl hd_Mo_signOf rfl (Nat.le_of_ble_eq_true rfl) d_Mo_signAt_211 (by decide) (by decide) (fun v σ4 hp => ?_)
      obtain ⟨rfl, b1σ4, b2σ4⟩ := hp
      have scσ4 : scr σ3 σ4 m := ⟨b1σ4, fun r h => b2σ4 r (by omega) (by omega)⟩
      rw [hsv]
      have q1 := m1.scr hp (by omega) scσ4
      have q2 := m2.scr (by omega) (by omega) scσ4
      have q3 := scσ4.pl (by omega) hn82 m3
      have q4 := scσ4.ka m4
      have q5 := m5.trans scσ4.mk
      have hpt := pt_sga hsN (ev_lp P2 (n2 + 1)) hrc.e1.1 (by rcases hrc.2.2 with ⟨-, h9, -⟩ | ⟨h9, -⟩; exact h9; exact absurd h9 (by decide)) (hg.rt_bd (by rcases hrc.2.2 with ⟨-, h9, -⟩ | ⟨h9, -⟩; exact h9; exact absurd h9 (by decide)))
      have hsb := sgr_b (ev P2 (n2 + 1) (xl C j))
      have hs0 : sgr (ev P2 (n2 + 1) (xl C j)) ≠ 0 := fun h9 => by
        rcases hpt with ⟨-, h8⟩ | ⟨h8, -⟩
        · exact hnv2 h8
        · omega
      generalize sgr (ev P2 (n2 + 1) (xl C j)) = sg at *
      refine q_goto (tgt := 218) d_Mo_signAt_214 (by decide) ?_
      refine q_ist_4 d_Mo_signAt_218 (by decide) rfl ?_
      refine q_iload d_Mo_signAt_220 rfl ?_
      refine q_if_ne (tgt := 231) (by omega) d_Mo_signAt_222 (by decide) (fun c222 => ?_) (fun c222 => absurd c222 (hs0))
      refine q_goto (tgt := 127) d_Mo_signAt_231 (by decide) ?_
      refine q_iload d_Mo_signAt_127 rfl ?_
      refine q_if_ne (tgt := 234) (by omega) d_Mo_signAt_129 (by decide) (fun c129 => ?_) (fun c129 => absurd c129 (by omega))
      refine q_iload d_Mo_signAt_234 rfl ?_
      exact q_iret rfl (⟨⟨M, F, d, hg, _, rfl, hpt⟩, q5⟩) d_Mo_signAt_236
    · refine q_if_ne (tgt := 183) (by decide) d_Mo_signAt_153 (by decide) (fun c153 => absurd c153 (by decide)) (fun c153 => ?_)
      refine q_aload_n d_Mo_signAt_156 rfl ?_
      refine q_iconst d_Mo_signAt_157 rfl ?_
      refine q_iload_n d_Mo_signAt_158 rfl ?_
      refine q_iadd d_Mo_signAt_159 ?_
      refine q_topi (show (2 : Int) + (o : Int) = ((2 + o : Nat) : Int) by omega) ?_
      refine q_aload_n d_Mo_signAt_160 rfl ?_
      refine q_iload_n d_Mo_signAt_161 rfl ?_
      refine q_iload_n d_Mo_signAt_162 rfl ?_
      refine q_callV (As := [vi p, vi i]) (c_Mo_cell l K (p := p) (i := i) hp (by omega)) w_cd_Mo_cell w_ini_Mo w_ml_Mo_115 w_im_Mo_cell w_se_Mo_cell hM0 rfl hd_Mo_cell rfl (Nat.le_of_ble_eq_true rfl) d_Mo_signAt_163 (by decide) (by decide) (fun v σ9 hp => ?_)
      obtain ⟨rfl, hσ⟩ := hp
      rw [hσ]
      clear hσ σ9
      refine q_aload_n d_Mo_signAt_166 rfl ?_
      refine q_gr hM0 pc_Mo 5 (by decide) w_fl_Mo_23 rfl (by rfl) d_Mo_signAt_167 ?_
      refine q_bipush d_Mo_signAt_170 (by decide) ?_
      refine q_iload_n d_Mo_signAt_172 rfl ?_
      refine q_imul d_Mo_signAt_173 ?_
      refine q_iload_n d_Mo_signAt_174 rfl ?_
      refine q_iadd d_Mo_signAt_175 ?_
      refine q_ial (8 * p + i) (by assumption) (by omega) (by omega) (by omega) d_Mo_signAt_176 ?_
      refine q_topi g4.2.1 ?_
      refine q_callV (As := [vi ((2 + o : Nat) : Int), vi ((140 + 8 * p + i : Nat) : Int), vi (j : Int)]) (c_Mo_changes l K (p := 2 + o) (c := 140 + 8 * p + i) (j := j) (n := d2 0) (cu := 108) (u := 860) (v := 107) (w := 4) (z := 970) (C := C) (P := F2 0) hLL (by omega) (by omega) (Or.inr (by omega)) (by omega) g2.1 g2.2 g4.1 hfd.1 (by omega) (by decide) (fun k _ => hg2.fitP k) hfd.2.1 hfd.2.2 (by decide) (by decide) hw4 (by decide)) w_cd_Mo_changes w_ini_Mo w_ml_Mo_121 w_im_Mo_changes w_se_Mo_changes hM0 rfl hd_Mo_changes rfl (Nat.le_of_ble_eq_true rfl) d_Mo_signAt_177 (by decide) (by decide) (fun v σ3 hp => ?_)
      obtain ⟨rfl, b1σ3, b2σ3⟩ := hp
      have scσ3 : scr σ2 σ3 m := ⟨b1σ3, fun r h => b2σ3 r (by omega) (by omega)⟩
      have m1 := g1.scr hp (by omega) scσ3
      have m2 := g2.scr (by omega) (by omega) scσ3
      have m3 := scσ3.pl (by omega) hn82 g3
      have m4 := scσ3.ka g4
      have m5 := g5.trans scσ3.mk
      refine q_topi (show _ = chg F2 d2 C j from rfl) ?_
      have hv0 : 0 ≤ chg F2 d2 C j := vr_mono _ _
      have hv8 : chg F2 d2 C j ≤ d2 0 := vr_le _
      have hchb : -2147483648 ≤ chg F2 d2 C j ∧ chg F2 d2 C j < 2147483648 := by omega
      have hsep : 1600 ≤ j → chg F2 d2 C j = 0 ∧ lk F2 d2 0 (xl C j) ≠ 0 := fun h9 => sg_sep hg h1 hg2 h12 hi2 hgd h9 hrc hnv
      refine q_if_ne (tgt := 187) hchb d_Mo_signAt_180 (by decide) (fun c180 => ?_) (fun c180 => ?_)
      · have hjl : j < 1600 := Nat.lt_of_not_le (fun h9 => c180 (hsep h9).1)
        refine q_iconst d_Mo_signAt_187 rfl ?_
        refine q_ist_6 d_Mo_signAt_188 (by decide) rfl ?_
        refine q_aload_n d_Mo_signAt_190 rfl ?_
        refine q_bipush d_Mo_signAt_191 (by decide) ?_
        refine q_iload_n d_Mo_signAt_193 rfl ?_
        refine q_iload_n d_Mo_signAt_194 rfl ?_
        refine q_callV (As := [vi 113, vi p, vi i]) (c_Mo_lowOf l K (o := 113) (p := p) (i := i) (j := j) (u := 126) hLL (by decide) (by decide) hp (by omega) m4.2.1 m4.1 hfr.1 (by omega) (by decide)) w_cd_Mo_lowOf w_ini_Mo w_ml_Mo_162 w_im_Mo_lowOf w_se_Mo_lowOf hM0 rfl hd_Mo_lowOf rfl (Nat.le_of_ble_eq_true rfl) d_Mo_signAt_195 (by decide) (by decide) (fun v σ4 hp => ?_)
        obtain ⟨rfl, b113σ4, b1σ4, b2σ4⟩ := hp
        have scσ4 : scr σ3 σ4 m := ⟨b1σ4, fun r h => b2σ4 r (by omega) (by omega)⟩
        have q1 := m1.scr hp (by omega) scσ4
        have q2 := m2.scr (by omega) (by omega) scσ4
        have q3 := scσ4.pl (by omega) hn82 m3
        have q4 := scσ4.ka m4
        have q5 := m5.trans scσ4.mk
        refine q_ist_5 d_Mo_signAt_198 (by decide) rfl ?_
        refine q_iload d_Mo_signAt_200 rfl ?_
        refine q_if_eq (tgt := 217) (by decide) d_Mo_signAt_202 (by decide) (fun c202 => ?_) (fun c202 => absurd c202 (by decide))
        refine q_iconst d_Mo_signAt_217 rfl ?_
        refine q_ist_4 d_Mo_signAt_218 (by decide) rfl ?_
        refine q_iload d_Mo_signAt_220 rfl ?_
        refine q_if_ne (tgt := 231) (by decide) d_Mo_signAt_222 (by decide) (fun c222 => absurd c222 (by decide)) (fun c222 => ?_)
        refine q_aload_n d_Mo_signAt_225 rfl ?_
        refine q_iload_n d_Mo_signAt_226 rfl ?_
        refine q_iload_n d_Mo_signAt_227 rfl ?_
        refine q_callV (As := [vi p, vi i]) (al_Mo_refines l K (p := p) (i := i) hLL hp (by omega) hg h1 q1 q4 (by omega)) w_cd_Mo_refines w_ini_Mo w_ml_Mo_134 w_im_Mo_refines w_se_Mo_refines hM0 rfl hd_Mo_refines rfl (Nat.le_of_ble_eq_true rfl) d_Mo_signAt_228 (by decide) (by decide) (fun v σ5 hp => ?_)
        obtain ⟨rfl, ⟨Cc, xc, k6⟩, k7⟩ := hp
        have r1 := k7.mq hp (by omega) hp q1
        have r2 := k7.mq hp (by omega) (by omega) q2
        have r3 := k7.pl (by omega) hn82 q3
        have r5 := q5.trans k7.mk
        refine q_goto (tgt := 127) d_Mo_signAt_231 (by decide) ?_
        exact ih (1690 - (j + 1)) (by omega) (j + 1) _ _ Cc xc (by omega) (by omega) σ5 r1 r2 r3 k6 r5
      · refine q_iconst d_Mo_signAt_183 rfl ?_
        refine q_goto (tgt := 188) d_Mo_signAt_184 (by decide) ?_
        refine q_ist_6 d_Mo_signAt_188 (by decide) rfl ?_
        refine q_aload_n d_Mo_signAt_190 rfl ?_
        refine q_bipush d_Mo_signAt_191 (by decide) ?_
        refine q_iload_n d_Mo_signAt_193 rfl ?_
        refine q_iload_n d_Mo_signAt_194 rfl ?_
        refine q_callV (As := [vi 113, vi p, vi i]) (c_Mo_lowOf l K (o := 113) (p := p) (i := i) (j := j) (u := 126) hLL (by decide) (by decide) hp (by omega) m4.2.1 m4.1 hfr.1 (by omega) (by decide)) w_cd_Mo_lowOf w_ini_Mo w_ml_Mo_162 w_im_Mo_lowOf w_se_Mo_lowOf hM0 rfl hd_Mo_lowOf rfl (Nat.le_of_ble_eq_true rfl) d_Mo_signAt_195 (by decide) (by decide) (fun v σ4 hp => ?_)
        obtain ⟨rfl, b113σ4, b1σ4, b2σ4⟩ := hp
        have scσ4 : scr σ3 σ4 m := ⟨b1σ4, fun r h => b2σ4 r (by omega) (by omega)⟩
        have q1 := m1.scr hp (by omega) scσ4
        have q2 := m2.scr (by omega) (by omega) scσ4
        have q3 := scσ4.pl (by omega) hn82 m3
        have q4 := scσ4.ka m4
        have q5 := m5.trans scσ4.mk
        refine q_ist_5 d_Mo_signAt_198 (by decide) rfl ?_
        refine q_iload d_Mo_signAt_200 rfl ?_
        refine q_if_eq (tgt := 217) (by decide) d_Mo_signAt_202 (by decide) (fun c202 => absurd c202 (by decide)) (fun c202 => ?_)
        refine q_aload_n d_Mo_signAt_205 rfl ?_
        refine q_iload_n d_Mo_signAt_206 rfl ?_
        refine q_bipush d_Mo_signAt_207 (by decide) ?_
        refine q_iload d_Mo_signAt_209 rfl ?_
        refine q_callV (As := [vi o, vi 113, vi ((j - 44 : Nat) : Int)]) (c_Mo_signOf l K σ4 (p := o) (w := 113) (n := n2) (ex := j - 44) (u := 876) (v := 126) (c := 4) (X := lowv C j) (P := P2) hLL (by omega) (by decide) (by decide) (by decide) hn82 (by omega) q3.1 q3.2 b113σ4 (lh16 hLb (by decide)) (fun k _ => lh16 (x := 55) (hb2 k) (by decide)) (fun i hi => hv_876 hb2 hLb (by omega) (by omega)) (by decide) hw5) w_cd_Mo_signOf w_ini_Mo w_ml_Mo_131 w_im_Mo_signOf w_se_Mo_signOf hM0 rfl hd_Mo_signOf rfl (Nat.le_of_ble_eq_true rfl) d_Mo_signAt_211 (by decide) (by decide) (fun v σ5 hp => ?_)
        obtain ⟨rfl, b1σ5, b2σ5⟩ := hp
        have scσ5 : scr σ4 σ5 m := ⟨b1σ5, fun r h => b2σ5 r (by omega) (by omega)⟩
        rw [hsv]
        have r1 := q1.scr hp (by omega) scσ5
        have r2 := q2.scr (by omega) (by omega) scσ5
        have r3 := scσ5.pl (by omega) hn82 q3
        have r4 := scσ5.ka q4
        have r5 := q5.trans scσ5.mk
        have hsb := sgr_b (ev P2 (n2 + 1) (xl C j))
        have hnz : sgr (ev P2 (n2 + 1) (xl C j)) ≠ 0 → sga (lk F d 0) (cN F d M) (i : Int) (ev P2 (n2 + 1)) (sgr (ev P2 (n2 + 1) (xl C j))) := fun h9 => sg_ok hg hg2 h12 hi2 (by omega) hrc c180 (sgr_ne.1 h9) hnv2
        have hjl : sgr (ev P2 (n2 + 1) (xl C j)) = 0 → j < 1600 := fun h8 => Nat.lt_of_not_le (fun h9 => (hsep h9).2 ((hg2.zP _).1 (sgr_z.1 h8)))
        generalize sgr (ev P2 (n2 + 1) (xl C j)) = sg at *
        refine q_goto (tgt := 218) d_Mo_signAt_214 (by decide) ?_
        refine q_ist_4 d_Mo_signAt_218 (by decide) rfl ?_
        refine q_iload d_Mo_signAt_220 rfl ?_
        refine q_if_ne (tgt := 231) (by omega) d_Mo_signAt_222 (by decide) (fun c222 => ?_) (fun c222 => ?_)
        · refine q_goto (tgt := 127) d_Mo_signAt_231 (by decide) ?_
          refine q_iload d_Mo_signAt_127 rfl ?_
          refine q_if_ne (tgt := 234) (by omega) d_Mo_signAt_129 (by decide) (fun c129 => ?_) (fun c129 => absurd c129 (c222))
          refine q_iload d_Mo_signAt_234 rfl ?_
          exact q_iret rfl (⟨⟨M, F, d, hg, _, rfl, hnz c222⟩, r5⟩) d_Mo_signAt_236
        · have hs0 : sg = 0 := c222
          have hjl := hjl hs0
          subst hs0
          refine q_aload_n d_Mo_signAt_225 rfl ?_
          refine q_iload_n d_Mo_signAt_226 rfl ?_
          refine q_iload_n d_Mo_signAt_227 rfl ?_
          refine q_callV (As := [vi p, vi i]) (al_Mo_refines l K (p := p) (i := i) hLL hp (by omega) hg h1 r1 r4 (by omega)) w_cd_Mo_refines w_ini_Mo w_ml_Mo_134 w_im_Mo_refines w_se_Mo_refines hM0 rfl hd_Mo_refines rfl (Nat.le_of_ble_eq_true rfl) d_Mo_signAt_228 (by decide) (by decide) (fun v σ6 hp => ?_)
          obtain ⟨rfl, ⟨Cc, xc, k6⟩, k7⟩ := hp
          have t1 := k7.mq hp (by omega) hp r1
          have t2 := k7.mq hp (by omega) (by omega) r2
          have t3 := k7.pl (by omega) hn82 r3
          have t5 := r5.trans k7.mk
          refine q_goto (tgt := 127) d_Mo_signAt_231 (by decide) ?_
          exact ih (1690 - (j + 1)) (by omega) (j + 1) _ _ Cc xc (by omega) (by omega) σ6 t1 t2 t3 k6 t5
set_option maxHeartbeats 4000000 in
set_option maxRecDepth 100000 in
theorem c_Mo_signAt (l : Launch) (K : pw_K) {L : q_L} {σ : q_S} {m p o n n2 : Nat} {P P2 : Nat → Int} (hL : mL L m) (hp : p < 2) (ho : o = 1 - p) (hd : σ (m + 4) p = (n : Int)) (hP : ∀ k, k ≤ n → rV σ m (9 * p + k) (P k)) (hz : ∀ c, n < c → P c = 0) (hPn : P n ≠ 0) (hn8 : n ≤ 8) (hb : ∀ k, (P k).natAbs ≤ 2147483648) (hd2 : σ (m + 4) o = (n2 : Int)) (hP2 : ∀ k, k ≤ n2 → rV σ m (9 * o + k) (P2 k)) (hz2 : ∀ c, n2 < c → P2 c = 0) (hPn2 : P2 n2 ≠ 0) (hn82 : n2 ≤ 8) (hb2 : ∀ k, (P2 k).natAbs ≤ 2147483648) {i : Nat} (hok : ∀ (M : Nat) (F : Nat → Nat → Int) (d : Nat → Nat), gch P n M F d → (i : Int) < vlo F d M - vhi F d M) : q_C l K L y_Mo_signAt b_Mo_signAt 7 (some .int) 7 [.ref m, vi p, vi i] σ (fun r σ' => (∃ (M : Nat) (F : Nat → Nat → Int) (d : Nat → Nat), gch P n M F d ∧ ∃ s0 : Int, r = some (vi s0) ∧ sga (lk F d 0) (cN F d M) (i : Int) (ev P2 (n2 + 1)) s0) ∧ mkp (q_up σ m 0 0) σ' m) := by
  have hLL := hL
  obtain ⟨hM0, hM1, hM2, hM3, hM4, hM5, hM6, hM7, hM8, hM9⟩ := hL
  have dd0 : ∃ a : Nat, σ (m + 4) 0 = (a : Int) ∧ a ≤ 8 := by
    rcases (show p = 0 ∨ o = 0 by omega) with h | h
    · exact ⟨n, by rw [← hd, h], hn8⟩
    · exact ⟨n2, by rw [← hd2, h], hn82⟩
  have dd1 : ∃ a : Nat, σ (m + 4) 1 = (a : Int) ∧ a ≤ 8 := by
    rcases (show p = 1 ∨ o = 1 by omega) with h | h
    · exact ⟨n, by rw [← hd, h], hn8⟩
    · exact ⟨n2, by rw [← hd2, h], hn82⟩
  obtain ⟨a0, da0, ha0⟩ := dd0
  obtain ⟨a1, da1, ha1⟩ := dd1
  refine q_start [some (.ref m), some (vi p), some (vi i), none, none, none, none] (by decide) (Nat.le_of_ble_eq_true rfl) (fun q h => h) ?_
  refine q_aload_n d_Mo_signAt_0 rfl ?_
  refine q_iload_n d_Mo_signAt_1 rfl ?_
  refine q_i2l (by omega) d_Mo_signAt_2 ?_
  refine q_lconst (z := 0) d_Mo_signAt_3 (by decide) ?_
  refine q_lconst (z := 1) d_Mo_signAt_4 (by decide) ?_
  refine q_callS (As := [vl (p : Int), vl 0, vl 1]) (q_Mo_in l K L σ (by omega) (by omega) (by omega)) w_cd_Mo_in w_ini_Mo w_ml_Mo_140 w_st_Mo_in hd_Mo_in rfl (Nat.le_of_ble_eq_true rfl) d_Mo_signAt_5 (by decide) (by decide) (fun v σ9 hp => ?_)
  obtain ⟨rfl, hσ⟩ := hp
  rw [hσ, if_pos (by omega)]
  clear hσ σ9
  refine q_if_ne (tgt := 15) (by decide) d_Mo_signAt_8 (by decide) (fun c8 => ?_) (fun c8 => absurd c8 (by decide))
  refine q_iconst d_Mo_signAt_15 rfl ?_
  refine q_iconst d_Mo_signAt_16 rfl ?_
  refine q_callV (As := [vi 0, vi 1]) (q_Mo_fails0 l K _ hLL) w_cd_Mo_fails w_ini_Mo w_ml_Mo_146 w_im_Mo_fails w_se_Mo_fails hM0 rfl hd_Mo_fails rfl (Nat.le_of_ble_eq_true rfl) d_Mo_signAt_17 (by decide) (by decide) (fun v σ9 hp => ?_)
  obtain ⟨rfl, hσ⟩ := hp
  rw [hσ]
  clear hσ σ9
  refine q_if_ne (tgt := 31) (by decide) d_Mo_signAt_20 (by decide) (fun c20 => absurd c20 (by decide)) (fun c20 => ?_)
  refine q_aload_n d_Mo_signAt_23 rfl ?_
  refine q_iconst d_Mo_signAt_24 rfl ?_
  refine q_callV (As := [vi 2]) (c_Mo_lacks1 l K (n := a0) (n2 := a1) hLL (by rw [q_up_a _ _ (by omega)]; exact da0) (by rw [q_up_a _ _ (by omega)]; exact da1) ha0 ha1) w_cd_Mo_lacks w_ini_Mo w_ml_Mo_204 w_im_Mo_lacks w_se_Mo_lacks hM0 rfl hd_Mo_lacks rfl (Nat.le_of_ble_eq_true rfl) d_Mo_signAt_25 (by decide) (by decide) (fun v σ9 hp => ?_)
  obtain ⟨rfl, hσ⟩ := hp
  rw [hσ, q_up2]
  clear hσ σ9
  refine q_if_eq (tgt := 33) (by decide) d_Mo_signAt_28 (by decide) (fun c28 => ?_) (fun c28 => absurd c28 (by decide))
  refine q_iconst d_Mo_signAt_33 rfl ?_
  refine q_iload_n d_Mo_signAt_34 rfl ?_
  refine q_isub d_Mo_signAt_35 ?_
  refine q_topi (show (1 : Int) - (p : Int) = (o : Int) by omega) ?_
  refine q_ist_n_3 d_Mo_signAt_36 (by decide) rfl ?_
  refine q_aload_n d_Mo_signAt_37 rfl ?_
  refine q_iload_n d_Mo_signAt_38 rfl ?_
  refine q_callV (As := [vi p]) (c_Mo_isolates l K (p := p) (n := n) (P := P) hLL hp (by rw [q_up_a _ _ (by omega)]; exact hd) (fun k hk => (hP k hk).mv (up0 _)) hz hPn hn8 hb) w_cd_Mo_isolates w_ini_Mo w_ml_Mo_150 w_im_Mo_isolates w_se_Mo_isolates hM0 rfl hd_Mo_isolates rfl (Nat.le_of_ble_eq_true rfl) d_Mo_signAt_39 (by decide) (by decide) (fun v σ1 hp => ?_)
  obtain ⟨rfl, k0, k4⟩ := hp
  have kd2 : σ1 (m + 4) o = (n2 : Int) := by rw [k4.2.2.1 o (by omega) (by omega), q_up_a _ _ (by omega)]; exact hd2
  have kp2 : ∀ k, k ≤ n2 → rV σ1 m (9 * o + k) (P2 k) := fun k hk => ((hP2 k hk).mv (up0 _)).mv (k4.2.1 _ (by omega) (by omega) (by omega) (by omega))
  refine q_aload_n d_Mo_signAt_42 rfl ?_
  refine q_iload_n d_Mo_signAt_43 rfl ?_
  refine q_callV (As := [vi o]) (c_Mo_isolates l K (p := o) (n := n2) (P := P2) hLL (by omega) kd2 kp2 hz2 hPn2 hn82 hb2) w_cd_Mo_isolates w_ini_Mo w_ml_Mo_150 w_im_Mo_isolates w_se_Mo_isolates hM0 rfl hd_Mo_isolates rfl (Nat.le_of_ble_eq_true rfl) d_Mo_signAt_44 (by decide) (by decide) (fun v σ2 hp => ?_)
  obtain ⟨rfl, ⟨M2, F2, d2, hg2, l1', l2, l3⟩, l4⟩ := hp
  obtain ⟨M, F, d, hg, k1, k2, k3⟩ := k0.mv hp (by omega) (by omega) l4
  have hcn := hg.cnt
  have hcn2 := hg2.cnt
  have hlt := hok M F d hg
  obtain ⟨hd1, hmq⟩ := k1 (by omega)
  have hmk := k4.mk.trans l4.mk
  have ld2 : σ2 (m + 4) o = (n2 : Int) := by rw [hmk.2.2 o (by omega), q_up_a _ _ (by omega)]; exact hd2
  have lp2 : ∀ k, k ≤ n2 → rV σ2 m (9 * o + k) (P2 k) := fun k hk => ((hP2 k hk).mv (up0 _)).mv (hmk.2.1 _ (by omega))
  have hm0 : σ2 m 0 = 0 := by rw [hmk.1 m (by omega) (by omega) (by omega) (by omega) (by omega) (by omega) (by omega) (by omega), q_up_self]
  have hpl := hg.pla (re := 32) (i := (i : Int)) (Or.inl rfl) (by omega) ⟨by omega, hlt⟩
  have hvq := hg.vzq (re := 32) (i := (i : Int)) (Or.inl rfl) (by omega) ⟨by omega, hlt⟩
  obtain ⟨C, j, x, hka, hj1, hj2⟩ := (k3 i hlt).kat
  refine q_aload_n d_Mo_signAt_47 rfl ?_
  refine q_iload_n d_Mo_signAt_48 rfl ?_
  refine q_i2l (by omega) d_Mo_signAt_49 ?_
  refine q_lconst (z := 0) d_Mo_signAt_50 (by decide) ?_
  refine q_aload_n d_Mo_signAt_51 rfl ?_
  refine q_gr hM0 pc_Mo 7 (by decide) w_fl_Mo_30 rfl (by rfl) d_Mo_signAt_52 ?_
  refine q_iload_n d_Mo_signAt_55 rfl ?_
  refine q_ial (p) (by assumption) (by omega) (by omega) (by omega) d_Mo_signAt_56 ?_
  refine q_topi k2 ?_
  refine q_iconst d_Mo_signAt_57 rfl ?_
  refine q_isub d_Mo_signAt_58 ?_
  refine q_i2l (by omega) d_Mo_signAt_59 ?_
  refine q_callS (As := [vl (i : Int), vl 0, vl (vlo F d M - vhi F d M - 1)]) (q_Mo_in l K L σ2 (by omega) (by omega) (by omega)) w_cd_Mo_in w_ini_Mo w_ml_Mo_140 w_st_Mo_in hd_Mo_in rfl (Nat.le_of_ble_eq_true rfl) d_Mo_signAt_60 (by decide) (by decide) (fun v σ9 hp => ?_)
  obtain ⟨rfl, hσ⟩ := hp
  rw [hσ, if_pos (by omega)]
  clear hσ σ9
  refine q_if_ne (tgt := 70) (by decide) d_Mo_signAt_63 (by decide) (fun c63 => ?_) (fun c63 => absurd c63 (by decide))
  refine q_iconst d_Mo_signAt_70 rfl ?_
  refine q_iconst d_Mo_signAt_71 rfl ?_
  refine q_callV (As := [vi 0, vi 3]) (q_Mo_fails0 l K _ hLL) w_cd_Mo_fails w_ini_Mo w_ml_Mo_146 w_im_Mo_fails w_se_Mo_fails hM0 rfl hd_Mo_fails rfl (Nat.le_of_ble_eq_true rfl) d_Mo_signAt_72 (by decide) (by decide) (fun v σ9 hp => ?_)
  obtain ⟨rfl, hσ⟩ := hp
  rw [hσ, up_id hm0]
  clear hσ σ9
  refine q_if_eq (tgt := 80) (by decide) d_Mo_signAt_75 (by decide) (fun c75 => ?_) (fun c75 => absurd c75 (by decide))
  refine q_aload_n d_Mo_signAt_80 rfl ?_
  refine q_gr hM0 pc_Mo 4 (by decide) w_fl_Mo_20 rfl (by rfl) d_Mo_signAt_81 ?_
  refine q_iload_n d_Mo_signAt_84 rfl ?_
  refine q_ial (o) (by assumption) (by omega) (by omega) (by omega) d_Mo_signAt_85 ?_
  refine q_topi ld2 ?_
  refine q_if_ne (tgt := 99) (by omega) d_Mo_signAt_86 (by decide) (fun c0 => ?_) (fun c0 => ?_)
  · refine q_aload_n d_Mo_signAt_99 rfl ?_
    refine q_bipush d_Mo_signAt_100 (by decide) ?_
    refine q_iconst d_Mo_signAt_102 rfl ?_
    refine q_iload_n d_Mo_signAt_103 rfl ?_
    
    refine q_iadd d_Mo_signAt_104 ?_
    refine q_topi (show (2 : Int) + (p : Int) = ((2 + p : Nat) : Int) by omega) ?_
    refine q_iconst d_Mo_signAt_105 rfl ?_
    refine q_iload_n d_Mo_signAt_106 rfl ?_
    refine q_iadd d_Mo_signAt_107 ?_
    refine q_topi (show (2 : Int) + (o : Int) = ((2 + o : Nat) : Int) by omega) ?_
    obtain ⟨hd12, hmq2⟩ := l1' (by omega)
    have hzq := hg.zq 0 (by omega)
    have hzq2 := hg2.zq 0 (by omega)
    refine q_callV (As := [vi 8, vi ((2 + p : Nat) : Int), vi ((2 + o : Nat) : Int)]) (al_Mo_divisor l K (o := 8) (p := 2 + p) (i := 2 + o) (a := d 0) (b := d2 0) (A := F 0) (B := F2 0) hLL (by omega) (by omega) (by omega) (by omega) (by omega) (by omega) ⟨hmq.1, hmq.2⟩ ⟨hmq2.1, hmq2.2⟩ hzq.1 hzq2.1 hzq.2 hzq2.2 (by omega) (by omega) hg.l52 hg2.l52) w_cd_Mo_divisor w_ini_Mo w_ml_Mo_102 w_im_Mo_divisor w_se_Mo_divisor hM0 rfl hd_Mo_divisor rfl (Nat.le_of_ble_eq_true rfl) d_Mo_signAt_108 (by decide) (by decide) (fun v σ3 hp => ?_)
    obtain ⟨rfl, ⟨G, ge, hgd, hG⟩, j1⟩ := hp
    have m1 := j1.mq (by omega) hp (by omega) hmq
    have m2 := j1.mq (by omega) (by omega) (by omega) hmq2
    have m3 := j1.pl (z := o) (by omega) (by omega) hn82 ⟨ld2, lp2⟩
    have m4 : kat σ3 m p i F d M C j x := ⟨hka.1.mv (j1.1 _ (by omega) (by omega) (by omega)), by rw [j1.2.2 (m + 5) (by omega) (by omega) (by omega) (by omega) (by omega)]; exact hka.2.1, by rw [j1.2.2 (m + 6) (by omega) (by omega) (by omega) (by omega) (by omega)]; exact hka.2.2.1, hka.2.2.2⟩
    have m5 := hmk.trans (j1.mk (by omega))
    have hgd0 := hgd
    obtain ⟨ge8, gz, gne, ggn, gcm⟩ := hgd
    have hvz := gcm.vz (pl.ev _ _) (pl.ev _ _) hpl hvq
    obtain ⟨ra, rb', ua, ub, p1, p2, p3, p4, e1, e2, e3⟩ := gcm
    refine q_aload_n d_Mo_signAt_111 rfl ?_
    refine q_bipush d_Mo_signAt_112 (by decide) ?_
    refine q_iload_n d_Mo_signAt_114 rfl ?_
    refine q_iload_n d_Mo_signAt_115 rfl ?_
    refine q_callV (As := [vi 8, vi p, vi i]) (al_Mo_isZeroAt l K (z := 8) (p := p) (i := i) hLL (by omega) hp (by omega) hg hd1 hlt m4 hj1 (by omega) ge8 gz gne ggn hG p1 e1) w_cd_Mo_isZeroAt w_ini_Mo w_ml_Mo_172 w_im_Mo_isZeroAt w_se_Mo_isZeroAt hM0 rfl hd_Mo_isZeroAt rfl (Nat.le_of_ble_eq_true rfl) d_Mo_signAt_116 (by decide) (by decide) (fun v σ4 hp => ?_)
    obtain ⟨⟨b, rfl, hbb⟩, k5⟩ := hp
    have q1 := k5.mq hp (by omega) m1
    have q2 := k5.mq (by omega) (by omega) m2
    have q3 := k5.pl (by omega) hn82 m3
    have q4 := k5.ka m4
    have q5 := m5.trans k5.mk
    refine q_if_eq (tgt := 124) (by omega) d_Mo_signAt_119 (by decide) (fun cb => ?_) (fun cb => ?_)
    · refine q_iconst d_Mo_signAt_124 rfl ?_
      refine q_ist_4 d_Mo_signAt_125 (by decide) rfl ?_
      exact a_Mo_signAt l K hLL hp ho hg hg2 hd1 hd12 hlt hgd0 (by
        rcases hbb with ⟨-, h9⟩ | ⟨h9, -⟩
        · exact h9
        · omega) (1690 - j) j _ _ C x hj1 (by omega) σ4 q1 q2 q3 q4 q5
    · refine q_iconst d_Mo_signAt_122 rfl ?_
      exact q_iret rfl (⟨⟨M, F, d, hg, _, rfl, Or.inl ⟨rfl, by
            rcases hbb with ⟨h9, -⟩ | ⟨-, -, h9⟩
            · exact absurd h9 cb
            · exact (gch_vzP hg2 hpl).2 (hvz.1 h9)⟩⟩, q5⟩) d_Mo_signAt_123
  · refine q_aload_n d_Mo_signAt_89 rfl ?_
    refine q_gr hM0 pc_Mo 3 (by decide) w_fl_Mo_17 rfl (by rfl) d_Mo_signAt_90 ?_
    refine q_bipush d_Mo_signAt_93 (by decide) ?_
    refine q_iload_n d_Mo_signAt_95 rfl ?_
    refine q_imul d_Mo_signAt_96 ?_
    refine q_ial (9 * o + 0) (by assumption) (by omega) (by omega) (by omega) d_Mo_signAt_97 ?_
    refine q_topi (lp2 0 (by omega)).sg ?_
    exact q_iret rfl (⟨⟨M, F, d, hg, _, rfl, by
        have e0 : n2 = 0 := by omega
        subst e0
        exact con_sga hpl (fun x => ev_one1 P2 x) hPn2⟩, hmk⟩) d_Mo_signAt_98
