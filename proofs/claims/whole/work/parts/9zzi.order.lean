/-! THE REFERENCE: order -/
set_option maxHeartbeats 4000000 in
set_option maxRecDepth 100000 in
theorem a_Mo_order (l : Launch) (K : pw_K) {L : q_L} {σ : q_S} {m i jj n n2 M M2 e : Nat} {P P2 G : Nat → Int} {F F2 : Nat → Nat → Int} {d d2 : Nat → Nat} (hL : mL L m) (hg : gch P n M F d) (hg2 : gch P2 n2 M2 F2 d2) (h1 : 1 ≤ d 0) (h12 : 1 ≤ d2 0) (hi : (i : Int) < vlo F d M - vhi F d M) (hj : (jj : Int) < vlo F2 d2 M2 - vhi F2 d2 M2) (hgd : gdv (F 0) (d 0) (F2 0) (d2 0) G e) : ∀ (f ja jb : Nat) (v5 : Option Value) (C C2 x x2 : Int), 44 ≤ ja → 44 ≤ jb → max ja jb + f = 1700 → ∀ (σ1 : q_S), mq σ1 m 0 F d → mq σ1 m 1 F2 d2 → kat σ1 m 0 i F d M C ja x → kat σ1 m 1 jj F2 d2 M2 C2 jb x2 → plr σ1 m 8 G e → mkp σ σ1 m → q_T l K L R_Mo b_Mo_order 6 (some .int) 7 (fun r σ' => (∃ (M : Nat) (F : Nat → Nat → Int) (d : Nat → Nat) (M2 : Nat) (F2 : Nat → Nat → Int) (d2 : Nat → Nat), gch P n M F d ∧ gch P2 n2 M2 F2 d2 ∧ ∃ rr : Int, r = some (vi rr) ∧ rcmp (cN F d M) (cN F2 d2 M2) (i : Int) (jj : Int) rr) ∧ mkp σ σ' m) 84 [some (.ref m), some (vi i), some (vi jj), some (vi 1), some (vi 0), v5] [] σ1 := by
  have hLL := hL
  obtain ⟨hM0, hM1, hM2, hM3, hM4, hM5, hM6, hM7, hM8, hM9⟩ := hL
  have hcn := hg.cnt
  have hn8 := hg.2.2.1
  have hcn2 := hg2.cnt
  have hn82 := hg2.2.2.1
  obtain ⟨sN, hsN⟩ := hg.rs
  obtain ⟨sN2, hsN2⟩ := hg2.rs
  have hpl := hg.pla (re := 32) (i := (i : Int)) (Or.inl rfl) (by omega) ⟨by omega, hi⟩
  have hvq := hg.vzq (re := 32) (i := (i : Int)) (Or.inl rfl) (by omega) ⟨by omega, hi⟩
  have hgd0 := hgd
  obtain ⟨ge8, gz, gne, ggn, gcm⟩ := hgd
  have hvz := gcm.vz (pl.ev _ _) (pl.ev _ _) hpl hvq
  obtain ⟨ra, rb', ua, ub, p1, p2, p3, p4, e1, e2, e3⟩ := gcm
  intro f
  induction f using Nat.strongRecOn with
  | _ f ih =>
    intro ja jb v5 C C2 x x2 ha hb hf σ1 f1 f2 f3 f4 f5 f6
    obtain ⟨D, hD⟩ : ∃ D, D = max ja jb := ⟨_, rfl⟩
    have d1 : σ1 (m + 5) i = (ja : Int) := by have h := f3.2.1; rw [Nat.mul_zero, Nat.zero_add] at h; exact h
    have d2' : σ1 (m + 5) (8 + jj) = (jb : Int) := by have h := f4.2.1; rw [Nat.mul_one] at h; exact h
    refine q_iload_n d_Mo_order_84 rfl ?_
    refine q_if_eq (tgt := 269) (by decide) d_Mo_order_85 (by decide) (fun c85 => absurd c85 (by decide)) (fun c85 => ?_)
    refine q_aload_n d_Mo_order_88 rfl ?_
    refine q_gr hM0 pc_Mo 5 (by decide) w_fl_Mo_23 rfl (by rfl) d_Mo_order_89 ?_
    refine q_iload_n d_Mo_order_92 rfl ?_
    refine q_ial (i) (by assumption) (by omega) (by omega) (by omega) d_Mo_order_93 ?_
    refine q_topi d1 ?_
    refine q_aload_n d_Mo_order_94 rfl ?_
    refine q_gr hM0 pc_Mo 5 (by decide) w_fl_Mo_23 rfl (by rfl) d_Mo_order_95 ?_
    refine q_bipush d_Mo_order_98 (by decide) ?_
    refine q_iload_n d_Mo_order_100 rfl ?_
    refine q_iadd d_Mo_order_101 ?_
    refine q_ial (8 + jj) (by assumption) (by omega) (by omega) (by omega) d_Mo_order_102 ?_
    refine q_topi d2' ?_
    refine q_jn2 (V := (D : Int)) 124 (fun jn => ?_) ?_
    · refine q_icmp_le (tgt := 115) (by omega) (by omega) d_Mo_order_103 (by decide) (fun c103 => ?_) (fun c103 => ?_)
      · refine q_aload_n d_Mo_order_115 rfl ?_
        refine q_gr hM0 pc_Mo 5 (by decide) w_fl_Mo_23 rfl (by rfl) d_Mo_order_116 ?_
        refine q_bipush d_Mo_order_119 (by decide) ?_
        refine q_iload_n d_Mo_order_121 rfl ?_
        refine q_iadd d_Mo_order_122 ?_
        refine q_ial (8 + jj) (by assumption) (by omega) (by omega) (by omega) d_Mo_order_123 ?_
        refine q_topi d2' ?_
        exact jn _ (by omega)
      · refine q_aload_n d_Mo_order_106 rfl ?_
        refine q_gr hM0 pc_Mo 5 (by decide) w_fl_Mo_23 rfl (by rfl) d_Mo_order_107 ?_
        refine q_iload_n d_Mo_order_110 rfl ?_
        refine q_ial (i) (by assumption) (by omega) (by omega) (by omega) d_Mo_order_111 ?_
        refine q_topi d1 ?_
        refine q_goto (tgt := 124) d_Mo_order_112 (by decide) ?_
        exact jn _ (by omega)
    · refine q_ist_5 d_Mo_order_124 (by decide) rfl ?_
      refine q_aload_n d_Mo_order_126 rfl ?_
      refine q_iconst d_Mo_order_127 rfl ?_
      refine q_iload_n d_Mo_order_128 rfl ?_
      refine q_iload d_Mo_order_129 rfl ?_
      refine q_bipush d_Mo_order_131 (by decide) ?_
      refine q_isub d_Mo_order_133 ?_
      refine q_topi (show (D : Int) - 44 = ((D - 44 : Nat) : Int) by omega) ?_
      refine q_callV (As := [vi 0, vi i, vi ((D - 44 : Nat) : Int)]) (al_Mo_refinesTo l K (p := 0) (i := i) (f := D - 44) hLL (by omega) (by omega) hg h1 f1 f3 (by omega) (by omega)) w_cd_Mo_refinesTo w_ini_Mo w_ml_Mo_159 w_im_Mo_refinesTo w_se_Mo_refinesTo hM0 rfl hd_Mo_refinesTo rfl (Nat.le_of_ble_eq_true rfl) d_Mo_order_134 (by decide) (by decide) (fun v σ2 hp => ?_)
      obtain ⟨rfl, ⟨Ca, xa, k1⟩, k2⟩ := hp
      rw [show ja + (44 + (D - 44) - ja) = D by omega] at k1
      have g1 := k2.mq (by omega) (by omega) (by omega) f1
      have g2 := k2.mq (by omega) (by omega) (by omega) f2
      have g4 := k2.ka (by omega) (by omega) (by omega) (by omega) (Or.inl (by omega)) f4
      have g5 := k2.pl (by omega) ge8 f5
      have g6 := f6.trans k2.mk
      refine q_aload_n d_Mo_order_137 rfl ?_
      refine q_iconst d_Mo_order_138 rfl ?_
      refine q_iload_n d_Mo_order_139 rfl ?_
      refine q_iload d_Mo_order_140 rfl ?_
      refine q_bipush d_Mo_order_142 (by decide) ?_
      refine q_isub d_Mo_order_144 ?_
      refine q_topi (show (D : Int) - 44 = ((D - 44 : Nat) : Int) by omega) ?_
      refine q_callV (As := [vi 1, vi jj, vi ((D - 44 : Nat) : Int)]) (al_Mo_refinesTo l K (p := 1) (i := jj) (f := D - 44) hLL (by omega) (by omega) hg2 h12 g2 g4 (by omega) (by omega)) w_cd_Mo_refinesTo w_ini_Mo w_ml_Mo_159 w_im_Mo_refinesTo w_se_Mo_refinesTo hM0 rfl hd_Mo_refinesTo rfl (Nat.le_of_ble_eq_true rfl) d_Mo_order_145 (by decide) (by decide) (fun v σ3 hp => ?_)
      obtain ⟨rfl, ⟨Cb, xb, k3⟩, k4⟩ := hp
      rw [show jb + (44 + (D - 44) - jb) = D by omega] at k3
      have m1 := k4.mq (by omega) (by omega) (by omega) g1
      have m2 := k4.mq (by omega) (by omega) (by omega) g2
      have m3 := k4.ka (by omega) (by omega) (by omega) (by omega) (Or.inl (by omega)) k1
      have m5 := k4.pl (by omega) ge8 g5
      have m6 := g6.trans k4.mk
      refine q_aload_n d_Mo_order_148 rfl ?_
      refine q_aload_n d_Mo_order_149 rfl ?_
      refine q_iconst d_Mo_order_150 rfl ?_
      refine q_iload_n d_Mo_order_151 rfl ?_
      refine q_callV (As := [vi 0, vi i]) (c_Mo_cell l K (p := 0) (i := i) (by omega) (by omega)) w_cd_Mo_cell w_ini_Mo w_ml_Mo_115 w_im_Mo_cell w_se_Mo_cell hM0 rfl hd_Mo_cell rfl (Nat.le_of_ble_eq_true rfl) d_Mo_order_152 (by decide) (by decide) (fun v σ9 hp => ?_)
      obtain ⟨rfl, hσ⟩ := hp
      rw [hσ]
      clear hσ σ9
      refine q_aload_n d_Mo_order_155 rfl ?_
      refine q_iconst d_Mo_order_156 rfl ?_
      refine q_iload_n d_Mo_order_157 rfl ?_
      refine q_callV (As := [vi 1, vi jj]) (c_Mo_cell l K (p := 1) (i := jj) (by omega) (by omega)) w_cd_Mo_cell w_ini_Mo w_ml_Mo_115 w_im_Mo_cell w_se_Mo_cell hM0 rfl hd_Mo_cell rfl (Nat.le_of_ble_eq_true rfl) d_Mo_order_158 (by decide) (by decide) (fun v σ9 hp => ?_)
      obtain ⟨rfl, hσ⟩ := hp
      rw [hσ]
      clear hσ σ9
      refine q_callV (As := [vi ((140 + 8 * 0 + i : Nat) : Int), vi ((140 + 8 * 1 + jj : Nat) : Int)]) (c_Mo_against l K (i := 140 + 8 * 0 + i) (j := 140 + 8 * 1 + jj) hLL (by omega) (by omega) m3.1 k3.1) w_cd_Mo_against w_ini_Mo w_ml_Mo_49 w_im_Mo_against w_se_Mo_against hM0 rfl hd_Mo_against rfl (Nat.le_of_ble_eq_true rfl) d_Mo_order_161 (by decide) (by decide) (fun v σ9 hp => ?_)
      obtain ⟨rfl, hσ⟩ := hp
      rw [hσ]
      clear hσ σ9
      have hsg : (Ca < Cb ∧ ((Ca.natAbs : Int) - Cb.natAbs).sign = -1) ∨ (Ca = Cb ∧ ((Ca.natAbs : Int) - Cb.natAbs).sign = 0) ∨ (Cb < Ca ∧ ((Ca.natAbs : Int) - Cb.natAbs).sign = 1) := by
        have c1 := m3.2.2.2.1
        have c2 := k3.2.2.2.1
        rcases Int.lt_trichotomy Ca Cb with h9 | h9 | h9
        · exact Or.inl ⟨h9, Int.sign_eq_neg_one_of_neg (by omega)⟩
        · exact Or.inr (Or.inl ⟨h9, Int.sign_eq_zero_iff_zero.2 (by omega)⟩)
        · exact Or.inr (Or.inr ⟨h9, Int.sign_eq_one_of_pos (by omega)⟩)
      generalize ((Ca.natAbs : Int) - Cb.natAbs).sign = sg at *
      refine q_ist_4 d_Mo_order_164 (by decide) rfl ?_
      refine q_iconst d_Mo_order_166 rfl ?_
      refine q_ist_n_3 d_Mo_order_167 (by decide) rfl ?_
      refine q_iload d_Mo_order_168 rfl ?_
      refine q_if_eq (tgt := 176) (by omega) d_Mo_order_170 (by decide) (fun c170 => ?_) (fun c170 => ?_)
      · have hCC : Ca = Cb := by omega
        have hs0 : sg = 0 := by omega
        subst hCC
        rw [hs0]
        have x1' : σ3 (m + 6) i = xa := by have h := m3.2.2.1; rw [Nat.mul_zero, Nat.zero_add] at h; exact h
        have x2' : σ3 (m + 6) (8 + jj) = xb := by have h := k3.2.2.1; rw [Nat.mul_one] at h; exact h
        have hxa : xa = 1 ∨ xa = 0 := by rcases m3.2.2.2.2.2 with ⟨h9, -⟩ | ⟨h9, -⟩ <;> omega
        have hxb : xb = 1 ∨ xb = 0 := by rcases k3.2.2.2.2.2 with ⟨h9, -⟩ | ⟨h9, -⟩ <;> omega
        have ra1 := m3.2.2.2
        have rb1 := k3.2.2.2
        rcases hxa with hxa | hxa <;> rcases hxb with hxb | hxb <;> subst hxa <;> subst hxb
        · refine q_aload_n d_Mo_order_176 rfl ?_
          refine q_gr hM0 pc_Mo 6 (by decide) w_fl_Mo_26 rfl (by rfl) d_Mo_order_177 ?_
          refine q_iload_n d_Mo_order_180 rfl ?_
          refine q_zal (i) (by assumption) (by omega) (by omega) (by omega) d_Mo_order_181 ?_
          refine q_topi x1' ?_
          refine q_if_ne (tgt := 197) (by decide) d_Mo_order_182 (by decide) (fun c182 => ?_) (fun c182 => absurd c182 (by decide))
          refine q_aload_n d_Mo_order_197 rfl ?_
          refine q_gr hM0 pc_Mo 6 (by decide) w_fl_Mo_26 rfl (by rfl) d_Mo_order_198 ?_
          refine q_iload_n d_Mo_order_201 rfl ?_
          refine q_zal (i) (by assumption) (by omega) (by omega) (by omega) d_Mo_order_202 ?_
          refine q_topi x1' ?_
          refine q_if_eq (tgt := 222) (by decide) d_Mo_order_203 (by decide) (fun c203 => absurd c203 (by decide)) (fun c203 => ?_)
          refine q_aload_n d_Mo_order_206 rfl ?_
          refine q_gr hM0 pc_Mo 6 (by decide) w_fl_Mo_26 rfl (by rfl) d_Mo_order_207 ?_
          refine q_bipush d_Mo_order_210 (by decide) ?_
          refine q_iload_n d_Mo_order_212 rfl ?_
          refine q_iadd d_Mo_order_213 ?_
          refine q_zal (8 + jj) (by assumption) (by omega) (by omega) (by omega) d_Mo_order_214 ?_
          refine q_topi x2' ?_
          refine q_if_eq (tgt := 222) (by decide) d_Mo_order_215 (by decide) (fun c215 => absurd c215 (by decide)) (fun c215 => ?_)
          refine q_iconst d_Mo_order_218 rfl ?_
          refine q_goto (tgt := 236) d_Mo_order_219 (by decide) ?_
          refine q_ist_4 d_Mo_order_236 (by decide) rfl ?_
          refine q_goto (tgt := 266) d_Mo_order_238 (by decide) ?_
          refine q_goto (tgt := 84) d_Mo_order_266 (by decide) ?_
          refine q_iload_n d_Mo_order_84 rfl ?_
          refine q_if_eq (tgt := 269) (by decide) d_Mo_order_85 (by decide) (fun c85 => ?_) (fun c85 => absurd c85 (by decide))
          refine q_iload d_Mo_order_269 rfl ?_
          exact q_iret rfl (⟨⟨M, F, d, M2, F2, d2, hg, hg2, _, rfl, ord_11 hsN hsN2 ra1 rb1⟩, m6⟩) d_Mo_order_271
        · refine q_aload_n d_Mo_order_176 rfl ?_
          refine q_gr hM0 pc_Mo 6 (by decide) w_fl_Mo_26 rfl (by rfl) d_Mo_order_177 ?_
          refine q_iload_n d_Mo_order_180 rfl ?_
          refine q_zal (i) (by assumption) (by omega) (by omega) (by omega) d_Mo_order_181 ?_
          refine q_topi x1' ?_
          refine q_if_ne (tgt := 197) (by decide) d_Mo_order_182 (by decide) (fun c182 => ?_) (fun c182 => absurd c182 (by decide))
          refine q_aload_n d_Mo_order_197 rfl ?_
          refine q_gr hM0 pc_Mo 6 (by decide) w_fl_Mo_26 rfl (by rfl) d_Mo_order_198 ?_
          refine q_iload_n d_Mo_order_201 rfl ?_
          refine q_zal (i) (by assumption) (by omega) (by omega) (by omega) d_Mo_order_202 ?_
          refine q_topi x1' ?_
          refine q_if_eq (tgt := 222) (by decide) d_Mo_order_203 (by decide) (fun c203 => absurd c203 (by decide)) (fun c203 => ?_)
          refine q_aload_n d_Mo_order_206 rfl ?_
          refine q_gr hM0 pc_Mo 6 (by decide) w_fl_Mo_26 rfl (by rfl) d_Mo_order_207 ?_
          refine q_bipush d_Mo_order_210 (by decide) ?_
          refine q_iload_n d_Mo_order_212 rfl ?_
          refine q_iadd d_Mo_order_213 ?_
          refine q_zal (8 + jj) (by assumption) (by omega) (by omega) (by omega) d_Mo_order_214 ?_
          refine q_topi x2' ?_
          refine q_if_eq (tgt := 222) (by decide) d_Mo_order_215 (by decide) (fun c215 => ?_) (fun c215 => absurd c215 (by decide))
          refine q_aload_n d_Mo_order_222 rfl ?_
          refine q_gr hM0 pc_Mo 6 (by decide) w_fl_Mo_26 rfl (by rfl) d_Mo_order_223 ?_
          refine q_iload_n d_Mo_order_226 rfl ?_
          refine q_zal (i) (by assumption) (by omega) (by omega) (by omega) d_Mo_order_227 ?_
          refine q_topi x1' ?_
          refine q_if_eq (tgt := 235) (by decide) d_Mo_order_228 (by decide) (fun c228 => absurd c228 (by decide)) (fun c228 => ?_)
          refine q_iconst d_Mo_order_231 rfl ?_
          refine q_goto (tgt := 236) d_Mo_order_232 (by decide) ?_
          refine q_ist_4 d_Mo_order_236 (by decide) rfl ?_
          refine q_goto (tgt := 266) d_Mo_order_238 (by decide) ?_
          refine q_goto (tgt := 84) d_Mo_order_266 (by decide) ?_
          refine q_iload_n d_Mo_order_84 rfl ?_
          refine q_if_eq (tgt := 269) (by decide) d_Mo_order_85 (by decide) (fun c85 => ?_) (fun c85 => absurd c85 (by decide))
          refine q_iload d_Mo_order_269 rfl ?_
          exact q_iret rfl (⟨⟨M, F, d, M2, F2, d2, hg, hg2, _, rfl, Or.inl ⟨rfl, ord_10 ra1 rb1⟩⟩, m6⟩) d_Mo_order_271
        · refine q_aload_n d_Mo_order_176 rfl ?_
          refine q_gr hM0 pc_Mo 6 (by decide) w_fl_Mo_26 rfl (by rfl) d_Mo_order_177 ?_
          refine q_iload_n d_Mo_order_180 rfl ?_
          refine q_zal (i) (by assumption) (by omega) (by omega) (by omega) d_Mo_order_181 ?_
          refine q_topi x1' ?_
          refine q_if_ne (tgt := 197) (by decide) d_Mo_order_182 (by decide) (fun c182 => absurd c182 (by decide)) (fun c182 => ?_)
          refine q_aload_n d_Mo_order_185 rfl ?_
          refine q_gr hM0 pc_Mo 6 (by decide) w_fl_Mo_26 rfl (by rfl) d_Mo_order_186 ?_
          refine q_bipush d_Mo_order_189 (by decide) ?_
          refine q_iload_n d_Mo_order_191 rfl ?_
          refine q_iadd d_Mo_order_192 ?_
          refine q_zal (8 + jj) (by assumption) (by omega) (by omega) (by omega) d_Mo_order_193 ?_
          refine q_topi x2' ?_
          refine q_if_eq (tgt := 241) (by decide) d_Mo_order_194 (by decide) (fun c194 => absurd c194 (by decide)) (fun c194 => ?_)
          refine q_aload_n d_Mo_order_197 rfl ?_
          refine q_gr hM0 pc_Mo 6 (by decide) w_fl_Mo_26 rfl (by rfl) d_Mo_order_198 ?_
          refine q_iload_n d_Mo_order_201 rfl ?_
          refine q_zal (i) (by assumption) (by omega) (by omega) (by omega) d_Mo_order_202 ?_
          refine q_topi x1' ?_
          refine q_if_eq (tgt := 222) (by decide) d_Mo_order_203 (by decide) (fun c203 => ?_) (fun c203 => absurd c203 (by decide))
          refine q_aload_n d_Mo_order_222 rfl ?_
          refine q_gr hM0 pc_Mo 6 (by decide) w_fl_Mo_26 rfl (by rfl) d_Mo_order_223 ?_
          refine q_iload_n d_Mo_order_226 rfl ?_
          refine q_zal (i) (by assumption) (by omega) (by omega) (by omega) d_Mo_order_227 ?_
          refine q_topi x1' ?_
          refine q_if_eq (tgt := 235) (by decide) d_Mo_order_228 (by decide) (fun c228 => ?_) (fun c228 => absurd c228 (by decide))
          refine q_iconst d_Mo_order_235 rfl ?_
          refine q_ist_4 d_Mo_order_236 (by decide) rfl ?_
          refine q_goto (tgt := 266) d_Mo_order_238 (by decide) ?_
          refine q_goto (tgt := 84) d_Mo_order_266 (by decide) ?_
          refine q_iload_n d_Mo_order_84 rfl ?_
          refine q_if_eq (tgt := 269) (by decide) d_Mo_order_85 (by decide) (fun c85 => ?_) (fun c85 => absurd c85 (by decide))
          refine q_iload d_Mo_order_269 rfl ?_
          exact q_iret rfl (⟨⟨M, F, d, M2, F2, d2, hg, hg2, _, rfl, Or.inr (Or.inl ⟨rfl, ord_10 rb1 ra1⟩)⟩, m6⟩) d_Mo_order_271
        · refine q_aload_n d_Mo_order_176 rfl ?_
          refine q_gr hM0 pc_Mo 6 (by decide) w_fl_Mo_26 rfl (by rfl) d_Mo_order_177 ?_
          refine q_iload_n d_Mo_order_180 rfl ?_
          refine q_zal (i) (by assumption) (by omega) (by omega) (by omega) d_Mo_order_181 ?_
          refine q_topi x1' ?_
          refine q_if_ne (tgt := 197) (by decide) d_Mo_order_182 (by decide) (fun c182 => absurd c182 (by decide)) (fun c182 => ?_)
          refine q_aload_n d_Mo_order_185 rfl ?_
          refine q_gr hM0 pc_Mo 6 (by decide) w_fl_Mo_26 rfl (by rfl) d_Mo_order_186 ?_
          refine q_bipush d_Mo_order_189 (by decide) ?_
          refine q_iload_n d_Mo_order_191 rfl ?_
          refine q_iadd d_Mo_order_192 ?_
          refine q_zal (8 + jj) (by assumption) (by omega) (by omega) (by omega) d_Mo_order_193 ?_
          refine q_topi x2' ?_
          refine q_if_eq (tgt := 241) (by decide) d_Mo_order_194 (by decide) (fun c194 => ?_) (fun c194 => absurd c194 (by decide))
          refine q_aload_n d_Mo_order_241 rfl ?_
          refine q_bipush d_Mo_order_242 (by decide) ?_
          refine q_iconst d_Mo_order_244 rfl ?_
          refine q_iload_n d_Mo_order_245 rfl ?_
          refine q_callV (As := [vi 8, vi 0, vi i]) (al_Mo_isZeroAt l K (z := 8) (p := 0) (i := i) hLL (by omega) (by omega) (by omega) hg h1 hi m3 (by omega) (by omega) ge8 gz gne ggn m5 p1 e1) w_cd_Mo_isZeroAt w_ini_Mo w_ml_Mo_172 w_im_Mo_isZeroAt w_se_Mo_isZeroAt hM0 rfl hd_Mo_isZeroAt rfl (Nat.le_of_ble_eq_true rfl) d_Mo_order_246 (by decide) (by decide) (fun v σ4 hp => ?_)
          obtain ⟨⟨b, rfl, hb'⟩, k5⟩ := hp
          have q1 := k5.mq (by omega) (by omega) m1
          have q2 := k5.mq (by omega) (by omega) m2
          have q3 := k5.ka m3
          have q4 := k5.ka k3
          have q5 := k5.pl (by omega) ge8 m5
          have q6 := m6.trans k5.mk
          refine q_if_ne (tgt := 266) (by omega) d_Mo_order_249 (by decide) (fun c249 => ?_) (fun c249 => ?_)
          · have hvv : vz (rb (lk F d 0) (cN F d M) B0 (i : Int)) (lk F2 d2 0) := by
              rcases hb' with ⟨h9, -⟩ | ⟨-, -, h9⟩
              · exact absurd h9 c249
              · exact hvz.1 h9
            obtain ⟨dq2, u2, w2, pu2, pw2, bq2⟩ := hg2.bzq h12
            refine q_goto (tgt := 84) d_Mo_order_266 (by decide) ?_
            refine q_iload_n d_Mo_order_84 rfl ?_
            refine q_if_eq (tgt := 269) (by decide) d_Mo_order_85 (by decide) (fun c85 => ?_) (fun c85 => absurd c85 (by decide))
            refine q_iload d_Mo_order_269 rfl ?_
            exact q_iret rfl (⟨⟨M, F, d, M2, F2, d2, hg, hg2, _, rfl, ord_00 hsN hsN2 dq2 (ev_lp _ _) pu2.lp pw2.lp bq2 hpl (by omega) ra1 rb1 hvv⟩, q6⟩) d_Mo_order_271
          · have hDlt : D < 1600 := by
              refine Nat.lt_of_not_le (fun h9 => ?_)
              have h8 := ord_sep hg h1 hg2 ⟨by omega, hi⟩ ⟨by omega, hj⟩ hgd0 h9 ra1 rb1
              rcases hb' with ⟨-, h7⟩ | ⟨h7, -⟩
              · exact h7 h8
              · omega
            refine q_aload_n d_Mo_order_252 rfl ?_
            refine q_iconst d_Mo_order_253 rfl ?_
            refine q_iload_n d_Mo_order_254 rfl ?_
            refine q_callV (As := [vi 0, vi i]) (al_Mo_refines l K (p := 0) (i := i) hLL (by omega) (by omega) hg h1 q1 q3 (by omega)) w_cd_Mo_refines w_ini_Mo w_ml_Mo_134 w_im_Mo_refines w_se_Mo_refines hM0 rfl hd_Mo_refines rfl (Nat.le_of_ble_eq_true rfl) d_Mo_order_255 (by decide) (by decide) (fun v σ5 hp => ?_)
            obtain ⟨rfl, ⟨Cc, xc, k6⟩, k7⟩ := hp
            have r1 := k7.mq (by omega) (by omega) (by omega) q1
            have r2 := k7.mq (by omega) (by omega) (by omega) q2
            have r4 := k7.ka (by omega) (by omega) (by omega) (by omega) (Or.inl (by omega)) q4
            have r5 := k7.pl (by omega) ge8 q5
            have r6 := q6.trans k7.mk
            refine q_aload_n d_Mo_order_258 rfl ?_
            refine q_iconst d_Mo_order_259 rfl ?_
            refine q_iload_n d_Mo_order_260 rfl ?_
            refine q_callV (As := [vi 1, vi jj]) (al_Mo_refines l K (p := 1) (i := jj) hLL (by omega) (by omega) hg2 h12 r2 r4 (by omega)) w_cd_Mo_refines w_ini_Mo w_ml_Mo_134 w_im_Mo_refines w_se_Mo_refines hM0 rfl hd_Mo_refines rfl (Nat.le_of_ble_eq_true rfl) d_Mo_order_261 (by decide) (by decide) (fun v σ6 hp => ?_)
            obtain ⟨rfl, ⟨Cd, xd, k8⟩, k9⟩ := hp
            have s1 := k9.mq (by omega) (by omega) (by omega) r1
            have s2 := k9.mq (by omega) (by omega) (by omega) r2
            have s3 := k9.ka (by omega) (by omega) (by omega) (by omega) (Or.inl (by omega)) k6
            have s5 := k9.pl (by omega) ge8 r5
            have s6 := r6.trans k9.mk
            refine q_iconst d_Mo_order_264 rfl ?_
            refine q_ist_n_3 d_Mo_order_265 (by decide) rfl ?_
            refine q_goto (tgt := 84) d_Mo_order_266 (by decide) ?_
            exact ih (1700 - (D + 1)) (by omega) (D + 1) (D + 1) _ Cc Cd xc xd (by omega) (by omega) (by omega) σ6 s1 s2 s3 k8 s5 s6
      · refine q_goto (tgt := 84) d_Mo_order_173 (by decide) ?_
        refine q_iload_n d_Mo_order_84 rfl ?_
        refine q_if_eq (tgt := 269) (by decide) d_Mo_order_85 (by decide) (fun c85 => ?_) (fun c85 => absurd c85 (by decide))
        refine q_iload d_Mo_order_269 rfl ?_
        exact q_iret rfl (⟨⟨M, F, d, M2, F2, d2, hg, hg2, _, rfl, by
              rcases hsg with ⟨h9, h8⟩ | ⟨h9, h8⟩ | ⟨h9, h8⟩
              · rw [h8]; exact Or.inl ⟨rfl, ord_lt hsN hsN2 (by omega) m3.2.2.2 k3.2.2.2 h9⟩
              · exact absurd h8 c170
              · rw [h8]; exact Or.inr (Or.inl ⟨rfl, ord_lt hsN2 hsN (by omega) k3.2.2.2 m3.2.2.2 h9⟩)⟩, m6⟩) d_Mo_order_271
set_option maxHeartbeats 4000000 in
set_option maxRecDepth 100000 in
theorem c_Mo_order (l : Launch) (K : pw_K) {L : q_L} {σ : q_S} {m n n2 : Nat} {P P2 : Nat → Int} (hL : mL L m) (hd : σ (m + 4) 0 = (n : Int)) (hP : ∀ k, k ≤ n → rV σ m (9 * 0 + k) (P k)) (hz : ∀ c, n < c → P c = 0) (hPn : P n ≠ 0) (hn8 : n ≤ 8) (hb : ∀ k, (P k).natAbs ≤ 2147483648) (hd2 : σ (m + 4) 1 = (n2 : Int)) (hP2 : ∀ k, k ≤ n2 → rV σ m (9 * 1 + k) (P2 k)) (hz2 : ∀ c, n2 < c → P2 c = 0) (hPn2 : P2 n2 ≠ 0) (hn82 : n2 ≤ 8) (hb2 : ∀ k, (P2 k).natAbs ≤ 2147483648) {i jj : Nat} (hok : ∀ (M : Nat) (F : Nat → Nat → Int) (d : Nat → Nat), gch P n M F d → (i : Int) < vlo F d M - vhi F d M) (hok2 : ∀ (M : Nat) (F : Nat → Nat → Int) (d : Nat → Nat), gch P2 n2 M F d → (jj : Int) < vlo F d M - vhi F d M) : q_C l K L y_Mo_order b_Mo_order 6 (some .int) 7 [.ref m, vi i, vi jj] σ (fun r σ' => (∃ (M : Nat) (F : Nat → Nat → Int) (d : Nat → Nat) (M2 : Nat) (F2 : Nat → Nat → Int) (d2 : Nat → Nat), gch P n M F d ∧ gch P2 n2 M2 F2 d2 ∧ ∃ rr : Int, r = some (vi rr) ∧ rcmp (cN F d M) (cN F2 d2 M2) (i : Int) (jj : Int) rr) ∧ mkp (q_up σ m 0 0) σ' m) := by
  have hLL := hL
  obtain ⟨hM0, hM1, hM2, hM3, hM4, hM5, hM6, hM7, hM8, hM9⟩ := hL
  refine q_start [some (.ref m), some (vi i), some (vi jj), none, none, none] (by decide) (Nat.le_of_ble_eq_true rfl) (fun q h => h) ?_
  refine q_aload_n d_Mo_order_0 rfl ?_
  refine q_iconst d_Mo_order_1 rfl ?_
  refine q_callV (As := [vi 1]) (c_Mo_lacks1 l K hLL hd hd2 hn8 hn82) w_cd_Mo_lacks w_ini_Mo w_ml_Mo_204 w_im_Mo_lacks w_se_Mo_lacks hM0 rfl hd_Mo_lacks rfl (Nat.le_of_ble_eq_true rfl) d_Mo_order_2 (by decide) (by decide) (fun v σ9 hp => ?_)
  obtain ⟨rfl, hσ⟩ := hp
  rw [hσ]
  clear hσ σ9
  refine q_if_eq (tgt := 10) (by decide) d_Mo_order_5 (by decide) (fun c5 => ?_) (fun c5 => absurd c5 (by decide))
  refine q_aload_n d_Mo_order_10 rfl ?_
  refine q_iconst d_Mo_order_11 rfl ?_
  refine q_callV (As := [vi 0]) (c_Mo_isolates l K (p := 0) (n := n) (P := P) hLL (by omega) (by rw [q_up_a _ _ (by omega)]; exact hd) (fun k hk => (hP k hk).mv (up0 _)) hz hPn hn8 hb) w_cd_Mo_isolates w_ini_Mo w_ml_Mo_150 w_im_Mo_isolates w_se_Mo_isolates hM0 rfl hd_Mo_isolates rfl (Nat.le_of_ble_eq_true rfl) d_Mo_order_12 (by decide) (by decide) (fun v σ1 hp => ?_)
  obtain ⟨rfl, k0, k4⟩ := hp
  have kd2 : σ1 (m + 4) 1 = (n2 : Int) := by rw [k4.2.2.1 1 (by omega) (by omega), q_up_a _ _ (by omega)]; exact hd2
  have kp2 : ∀ k, k ≤ n2 → rV σ1 m (9 * 1 + k) (P2 k) := fun k hk => ((hP2 k hk).mv (up0 _)).mv (k4.2.1 _ (by omega) (by omega) (by omega) (by omega))
  refine q_aload_n d_Mo_order_15 rfl ?_
  refine q_iconst d_Mo_order_16 rfl ?_
  refine q_callV (As := [vi 1]) (c_Mo_isolates l K (p := 1) (n := n2) (P := P2) hLL (by omega) kd2 kp2 hz2 hPn2 hn82 hb2) w_cd_Mo_isolates w_ini_Mo w_ml_Mo_150 w_im_Mo_isolates w_se_Mo_isolates hM0 rfl hd_Mo_isolates rfl (Nat.le_of_ble_eq_true rfl) d_Mo_order_17 (by decide) (by decide) (fun v σ2 hp => ?_)
  obtain ⟨rfl, ⟨M2, F2, d2, hg2, l1', l2, l3⟩, l4⟩ := hp
  obtain ⟨M, F, d, hg, k1, k2, k3⟩ := k0.mv (by omega) (by omega) (by omega) l4
  have hcn := hg.cnt
  have hcn2 := hg2.cnt
  have hlt := hok M F d hg
  have hlt2 := hok2 M2 F2 d2 hg2
  obtain ⟨hd1, hmq⟩ := k1 (by omega)
  obtain ⟨hd12, hmq2⟩ := l1' (by omega)
  have hzq := hg.zq 0 (by omega)
  have hzq2 := hg2.zq 0 (by omega)
  have hmk := k4.mk.trans l4.mk
  have hm0 : σ2 m 0 = 0 := by rw [hmk.1 m (by omega) (by omega) (by omega) (by omega) (by omega) (by omega) (by omega) (by omega), q_up_self]
  obtain ⟨C, ja, x, hka, hja, hja2⟩ := (k3 i hlt).kat
  obtain ⟨C2, jb, x2, hkb, hjb, hjb2⟩ := (l3 jj hlt2).kat
  refine q_aload_n d_Mo_order_20 rfl ?_
  refine q_iload_n d_Mo_order_21 rfl ?_
  refine q_i2l (by omega) d_Mo_order_22 ?_
  refine q_lconst (z := 0) d_Mo_order_23 (by decide) ?_
  refine q_aload_n d_Mo_order_24 rfl ?_
  refine q_gr hM0 pc_Mo 7 (by decide) w_fl_Mo_30 rfl (by rfl) d_Mo_order_25 ?_
  refine q_iconst d_Mo_order_28 rfl ?_
  refine q_ial (0) (by assumption) (by omega) (by omega) (by omega) d_Mo_order_29 ?_
  refine q_topi k2 ?_
  refine q_iconst d_Mo_order_30 rfl ?_
  refine q_isub d_Mo_order_31 ?_
  refine q_i2l (by omega) d_Mo_order_32 ?_
  refine q_callS (As := [vl (i : Int), vl 0, vl (vlo F d M - vhi F d M - 1)]) (q_Mo_in l K L σ2 (by omega) (by omega) (by omega)) w_cd_Mo_in w_ini_Mo w_ml_Mo_140 w_st_Mo_in hd_Mo_in rfl (Nat.le_of_ble_eq_true rfl) d_Mo_order_33 (by decide) (by decide) (fun v σ9 hp => ?_)
  obtain ⟨rfl, hσ⟩ := hp
  rw [hσ, if_pos (by omega)]
  clear hσ σ9
  refine q_if_eq (tgt := 57) (by decide) d_Mo_order_36 (by decide) (fun c36 => absurd c36 (by decide)) (fun c36 => ?_)
  refine q_iload_n d_Mo_order_39 rfl ?_
  refine q_i2l (by omega) d_Mo_order_40 ?_
  refine q_lconst (z := 0) d_Mo_order_41 (by decide) ?_
  refine q_aload_n d_Mo_order_42 rfl ?_
  refine q_gr hM0 pc_Mo 7 (by decide) w_fl_Mo_30 rfl (by rfl) d_Mo_order_43 ?_
  refine q_iconst d_Mo_order_46 rfl ?_
  refine q_ial (1) (by assumption) (by omega) (by omega) (by omega) d_Mo_order_47 ?_
  refine q_topi l2 ?_
  refine q_iconst d_Mo_order_48 rfl ?_
  refine q_isub d_Mo_order_49 ?_
  refine q_i2l (by omega) d_Mo_order_50 ?_
  refine q_callS (As := [vl (jj : Int), vl 0, vl (vlo F2 d2 M2 - vhi F2 d2 M2 - 1)]) (q_Mo_in l K L σ2 (by omega) (by omega) (by omega)) w_cd_Mo_in w_ini_Mo w_ml_Mo_140 w_st_Mo_in hd_Mo_in rfl (Nat.le_of_ble_eq_true rfl) d_Mo_order_51 (by decide) (by decide) (fun v σ9 hp => ?_)
  obtain ⟨rfl, hσ⟩ := hp
  rw [hσ, if_pos (by omega)]
  clear hσ σ9
  refine q_if_ne (tgt := 61) (by decide) d_Mo_order_54 (by decide) (fun c54 => ?_) (fun c54 => absurd c54 (by decide))
  refine q_iconst d_Mo_order_61 rfl ?_
  refine q_iconst d_Mo_order_62 rfl ?_
  refine q_callV (As := [vi 0, vi 2]) (q_Mo_fails0 l K _ hLL) w_cd_Mo_fails w_ini_Mo w_ml_Mo_146 w_im_Mo_fails w_se_Mo_fails hM0 rfl hd_Mo_fails rfl (Nat.le_of_ble_eq_true rfl) d_Mo_order_63 (by decide) (by decide) (fun v σ9 hp => ?_)
  obtain ⟨rfl, hσ⟩ := hp
  rw [hσ, up_id hm0]
  clear hσ σ9
  refine q_if_eq (tgt := 71) (by decide) d_Mo_order_66 (by decide) (fun c66 => ?_) (fun c66 => absurd c66 (by decide))
  refine q_aload_n d_Mo_order_71 rfl ?_
  refine q_bipush d_Mo_order_72 (by decide) ?_
  refine q_iconst d_Mo_order_74 rfl ?_
  refine q_iconst d_Mo_order_75 rfl ?_
  refine q_callV (As := [vi 8, vi 2, vi 3]) (al_Mo_divisor l K (o := 8) (p := 2) (i := 3) (a := d 0) (b := d2 0) (A := F 0) (B := F2 0) hLL (by omega) (by omega) (by omega) (by omega) (by omega) (by omega) ⟨hmq.1, hmq.2⟩ ⟨hmq2.1, hmq2.2⟩ hzq.1 hzq2.1 hzq.2 hzq2.2 (by omega) (by omega) hg.l52 hg2.l52) w_cd_Mo_divisor w_ini_Mo w_ml_Mo_102 w_im_Mo_divisor w_se_Mo_divisor hM0 rfl hd_Mo_divisor rfl (Nat.le_of_ble_eq_true rfl) d_Mo_order_76 (by decide) (by decide) (fun v σ3 hp => ?_)
  obtain ⟨rfl, ⟨G, ge, hgd, hG⟩, j1⟩ := hp
  refine q_iconst d_Mo_order_79 rfl ?_
  refine q_ist_n_3 d_Mo_order_80 (by decide) rfl ?_
  refine q_iconst d_Mo_order_81 rfl ?_
  refine q_ist_4 d_Mo_order_82 (by decide) rfl ?_
  have mka : ∀ {pp ii : Nat} {FF : Nat → Nat → Int} {dd : Nat → Nat} {MM jx : Nat} {CC xx : Int}, kat σ2 m pp ii FF dd MM CC jx xx → kat σ3 m pp ii FF dd MM CC jx xx := fun g => ⟨g.1.mv (j1.1 _ (by omega) (by omega) (by omega)), by rw [j1.2.2 (m + 5) (by omega) (by omega) (by omega) (by omega) (by omega)]; exact g.2.1, by rw [j1.2.2 (m + 6) (by omega) (by omega) (by omega) (by omega) (by omega)]; exact g.2.2.1, g.2.2.2⟩
  exact a_Mo_order l K hLL hg hg2 hd1 hd12 hlt hlt2 hgd (1700 - max ja jb) ja jb _ C C2 x x2 hja hjb (by omega) σ3 (j1.mq (by omega) (by omega) (by omega) hmq) (j1.mq (by omega) (by omega) (by omega) hmq2) (mka hka) (mka hkb) hG (hmk.trans (j1.mk (by omega)))
