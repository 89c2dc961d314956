/-! HELD: guessOnLine -/
theorem gq_r {A U : Int} {w : Nat} (hA : 0 ≤ A) (hAU : A ≤ U) (hU : 0 < U) : 0 ≤ (A * 2 ^ (w + 1) + 1 * U).tdiv (U * 2 ^ 1) ∧ (A * 2 ^ (w + 1) + 1 * U).tdiv (U * 2 ^ 1) ≤ 2 ^ w := by
  have hp := ip_pos (B := 2) (by decide) w
  have e1 : (2 : Int) ^ (w + 1) = 2 ^ w * 2 := Int.pow_succ _ _
  have h1 : A * 2 ^ (w + 1) ≤ U * 2 ^ (w + 1) := Int.mul_le_mul_of_nonneg_right hAU (by omega)
  have h0 : 0 ≤ A * 2 ^ (w + 1) := Int.mul_nonneg hA (by omega)
  rw [Int.tdiv_eq_ediv_of_nonneg (by omega)]
  refine ⟨Int.ediv_nonneg (by omega) (by omega), ?_⟩
  have h2 := Int.ediv_lt_of_lt_mul (a := A * 2 ^ (w + 1) + 1 * U) (b := 2 ^ w + 1) (c := U * 2 ^ 1) (by omega) (by
    have e2 : (2 ^ w + 1) * (U * 2 ^ 1) = U * 2 ^ (w + 1) + U * 2 := by rw [e1]; grind
    rw [e2]
    omega)
  omega
/-- the value at a point of at most 341 bits -/
theorem val_bd {P : Nat → Int} {n M : Nat} {F : Nat → Nat → Int} {d : Nat → Nat} (h : gch P n M F d) {X : Int} {ex : Nat} (hX : X.natAbs ≤ 2 ^ 341) (hE : ex ≤ 341) : (hv (F 0) (d 0) X ex (d 0 + 1)).natAbs ≤ 2 ^ 2784 := by
  have h8 : d 0 ≤ 8 := by have := h.cnt; have := h.2.2.1; omega
  refine Nat.le_trans (hv_bd h.bits.1 hX hE (d 0 + 1)) ?_
  rw [Nat.add_sub_cancel]
  refine Nat.le_trans (Nat.mul_le_mul_right _ (show d 0 + 1 ≤ 2 ^ 4 by omega)) ?_
  rw [← Nat.pow_add]
  refine Nat.pow_le_pow_right (by omega) ?_
  have h1 : fbm (d 0) ≤ 52 := (fbm_r _).2
  have h2 := Nat.mul_le_mul_left 341 h8
  omega
theorem pt_341 {y lev : Int} (h : y.natAbs ≤ 2 ^ (32 + lev).toNat) (h1 : -32 ≤ lev) (h2 : lev ≤ 308) : (ptX y lev).natAbs ≤ 2 ^ 341 := pt_bd (Lm := 308) h h1 (by omega)
theorem LV_ge (m : Nat) : 572 ≤ LV m ∧ LV m ≤ 620 := ⟨Nat.le_refl _, by show 572 ≤ 620; decide⟩
theorem dif_bd {x y : Int} {k : Nat} (hx : x.natAbs ≤ 2 ^ k) (hy : y.natAbs ≤ 2 ^ k) : (x + -1 * y).natAbs ≤ 2 ^ (k + 1) := by
  rw [Nat.pow_succ]
  generalize 2 ^ k = A at *
  omega
theorem sum_bd {x y : Int} {k : Nat} (hx : x.natAbs ≤ 2 ^ k) (hy : y.natAbs ≤ 2 ^ k) : (x + 1 * y).natAbs ≤ 2 ^ (k + 1) := by
  rw [Nat.pow_succ]
  generalize 2 ^ k = A at *
  omega
theorem shl_bd {x k w : Nat} (hx : x ≤ 2 ^ k) : ((x : Int) * 2 ^ w).natAbs ≤ 2 ^ (k + w) := by
  have e : ((x : Int) * 2 ^ w).natAbs = x * 2 ^ w := by rw [Int.natAbs_mul, Int.natAbs_pow, Int.natAbs_natCast]; rfl
  rw [e, Nat.pow_add]
  exact Nat.mul_le_mul_right _ hx
theorem shl_bdI {x : Int} {k w : Nat} (hx : x.natAbs ≤ 2 ^ k) : (x * 2 ^ w).natAbs ≤ 2 ^ (k + w) := by
  have e : (x * 2 ^ w).natAbs = x.natAbs * 2 ^ w := by rw [Int.natAbs_mul, Int.natAbs_pow]; rfl
  rw [e, Nat.pow_add]
  exact Nat.mul_le_mul_right _ hx
theorem up_bd {x k m : Nat} (hx : x ≤ 2 ^ k) (h : k ≤ m) : x ≤ 2 ^ m := Nat.le_trans hx (Nat.pow_le_pow_right (by omega) h)
/-- the value at z over 2 to the lev -/
def hvv (F : Nat → Nat → Int) (d : Nat → Nat) (z lev : Int) : Int := hv (F 0) (d 0) (ptX z lev) (ptE lev) (d 0 + 1)
set_option maxHeartbeats 4000000 in
set_option maxRecDepth 100000 in
theorem c_He_guessOnLine (l : Launch) (K : pw_K) {L : q_L} {σ : q_S} {a B i n M w : Nat} {P : Nat → Int} {F : Nat → Nat → Int} {d : Nat → Nat} {z lev : Int} (hL : heL L a) (hbL : beL L B) (hdj : a + 177 ≤ B ∨ B + 91 ≤ a) (hi : i < 8) (hg : gch P n M F d) (hc : cst σ a M F d) (ha : nV σ (a + 153 + 3 * i + 1) 48 z) (hlev : σ (a + 153 + 3 * i) 1 = lev) (hz : zin z lev) (hl : -32 ≤ lev ∧ lev ≤ 308) (hw : w ≤ 400) (hs : (hvv F d (z + 1) lev).sign = -(hvv F d z lev).sign) (hs0 : (hvv F d z lev).sign ≠ 0) : q_C l K L y_He_guessOnLine b_He_guessOnLine 5 none 5 [.ref a, .ref (a + 153 + 3 * i), vi (w : Int), .ref B] σ (fun r σ' => r = none ∧ (∃ G : Int, nV σ' (B + 13) 160 G ∧ z * 2 ^ w ≤ G ∧ G ≤ (z + 1) * 2 ^ w) ∧ nV σ' (a + 153 + 3 * i + 1) 48 z ∧ (∀ q, (q ≤ B ∨ (B + 7 ≤ q ∧ q ≤ B + 8) ∨ (B + 15 ≤ q ∧ q ≤ B + 24) ∨ B + 35 ≤ q) → q ≠ a + 153 + 3 * i + 1 → q ≠ a + 153 + 3 * i + 2 → σ' q = σ q)) := by
  obtain ⟨hH0, -, -, hch, ⟨rg, hrg, hrg2⟩, hroA⟩ := hL
  have hro := hroA i hi
  obtain ⟨hc0, ⟨g, hg1, hg2⟩, hpl⟩ := hch
  have hb0 := hbL.1
  have hbV := hbL.vb
  have hpt : ptL L (B + 25) := hbL.2.2.1
  have h1L : nL L (B + 1) 160 := hbL.2.1 0 (by decide)
  have h3L : nL L (B + 3) 160 := hbL.2.1 1 (by decide)
  have hLo : nL L (B + 9) 160 := hbL.2.1 4 (by decide)
  have hUp : nL L (B + 11) 160 := hbL.2.1 5 (by decide)
  have hGu : nL L (B + 13) 160 := hbL.2.1 6 (by decide)
  have hdi : diL L (B + 28) := hbL.2.2.2.1
  have hqu : nL L (B + 29) 160 := hdi.2.1
  have hp0 : pL L (a + 24) 9 48 := hpl 0 (by decide)
  have hd8 : d 0 ≤ 8 := by have := hg.cnt; have := hg.2.2.1; omega
  have hLV := LV_ge (d 0)
  have huv := uvM (d 0) hd8
  have hE : ptE lev ≤ 308 := ptE_le (by omega)
  have hzb : hid ((z.natAbs : Int) < 2147483648 ^ 11) := lim_up (lim_ofI (Nat.le_trans hz.lo (Nat.pow_le_pow_right (by omega) (show (32 + lev).toNat ≤ 340 by omega)))) (by decide)
  have fL : hid _ := hg.fit (pt_bd (Lm := LV (d 0)) hz.lo hl.1 (by omega)) (show ptE lev ≤ LV (d 0) by omega)
  have fH : hid _ := hg.fit (pt_bd (Lm := LV (d 0)) hz.hi hl.1 (by omega)) (show ptE lev ≤ LV (d 0) by omega)
  have bL : hid ((hvv F d z lev).natAbs ≤ 2 ^ 2784) := val_bd hg (pt_341 hz.lo hl.1 hl.2) (by omega)
  have bH : hid ((hvv F d (z + 1) lev).natAbs ≤ 2 ^ 2784) := val_bd hg (pt_341 hz.hi hl.1 hl.2) (by omega)
  have bU : hid ((hvv F d (z + 1) lev + -1 * hvv F d z lev).natAbs ≤ 2 ^ 2785) := dif_bd bH bL
  have sL := sg3 (hvv F d z lev)
  have sH := sg3 (hvv F d (z + 1) lev)
  have hU0 : ((hvv F d z lev).natAbs : Int) ≤ ((hvv F d (z + 1) lev + -1 * hvv F d z lev).natAbs : Int) ∧ (0 : Int) < ((hvv F d (z + 1) lev + -1 * hvv F d z lev).natAbs : Int) := by omega
  have hgq : hid _ := gq_r (w := w) (Int.natCast_nonneg _) hU0.1 hU0.2
  have bS : hid ((((hvv F d z lev).natAbs : Int) * 2 ^ (w + 1)).natAbs ≤ 2 ^ (2784 + (w + 1))) := shl_bd bL
  have hU1 : ((hvv F d (z + 1) lev + -1 * hvv F d z lev).natAbs : Int) * 2 ^ 1 ≠ 0 := by omega
  have c1 : d 0 < 9 ∧ σ (a + 24) 1 = (d 0 : Int) ∧ ∀ c, c ≤ d 0 → nV σ (a + 24 + 2 + 2 * c) 48 (F 0 c) := hc.2.2 0 (Nat.zero_le _)
  have zL : hid _ := hz.lo
  clear hz
  refine q_start [some (.ref a), some (.ref (a + 153 + 3 * i)), some (vi (w : Int)), some (.ref B), none] (by decide) (Nat.le_of_ble_eq_true rfl) (fun q h => h) ?_
  refine q_aload_n d_He_guessOnLine_0 rfl ?_
  refine q_gr hb0 pc_Be 12 (by decide) w_fl_He_140 rfl (by rfl) d_He_guessOnLine_1 ?_
  refine q_ast_4 d_He_guessOnLine_4 (by decide) rfl ?_
  refine q_aload_n d_He_guessOnLine_6 rfl ?_
  refine q_aload d_He_guessOnLine_7 rfl ?_
  refine q_callV (As := [.ref (B + 25)]) (c_Ro_toLow l K (u := 11) hro hpt (by omega) ha hlev hzb (by omega) (by omega)) w_cd_Ro_toLow w_ini_Ro w_ml_He_167 w_im_Ro_toLow w_se_Ro_toLow hro.1 rfl hd_Ro_toLow rfl (Nat.le_of_ble_eq_true rfl) d_He_guessOnLine_9 (by decide) (by decide) (fun v σ1 hp => ?_)
  obtain ⟨rfl, k1, k2, k3⟩ := hp
  refine q_aload_n d_He_guessOnLine_12 rfl ?_
  refine q_gr hb0 pc_Be 4 (by decide) w_fl_He_205 rfl (by rfl) d_He_guessOnLine_13 ?_
  refine q_aload_n d_He_guessOnLine_16 rfl ?_
  refine q_aload_n d_He_guessOnLine_17 rfl ?_
  refine q_gr hH0 pc_He 2 (by decide) w_fl_He_29 rfl (by rfl) d_He_guessOnLine_18 ?_
  refine q_gr hc0 pc_Ch 0 (by decide) w_fl_He_57 rfl (by rfl) d_He_guessOnLine_21 ?_
  refine q_iconst d_He_guessOnLine_24 rfl ?_
  refine q_aal (0) 5 (b := a + 24) rfl hg1 (by omega) (by omega) (by omega) (hg2 0 (by decide)) d_He_guessOnLine_25 ?_
  refine q_aload d_He_guessOnLine_26 rfl ?_
  refine q_callV (As := [.ref (a + 24), .ref (B + 25)]) (c_Be_valueAt l K σ1 (x := B + 25) (n := d 0) (z := 0) (ex := ptE lev) (u := uM (d 0)) (v := vM (d 0)) (c := cM d 0) (X := ptX z lev) (P := F 0) hbV hp0 hpt (Or.inl rfl) (by omega) (by omega) (by omega) (by rw [k3 _ (by omega) (by omega) (by omega)]; exact c1.2.1.trans (by omega)) (fun j hj => (c1.2.2 j hj).mv (by rw [k3 _ (by omega) (by omega) (by omega)]) (by rw [k3 _ (by omega) (by omega) (by omega)])) k1 (k2.trans (ptE_m _)) (by omega) fL.1 (fun j hj => hg.cb 0 (by omega) j hj) (fL.2.1 0 (by omega)) huv (fL.2.2 0 (by omega))) w_cd_Be_valueAt w_ini_Be w_ml_He_170 w_im_Be_valueAt w_se_Be_valueAt hb0 rfl hd_Be_valueAt rfl (Nat.le_of_ble_eq_true rfl) d_He_guessOnLine_28 (by decide) (by decide) (fun v σ2 hp => ?_)
  obtain ⟨⟨na, rfl, hna, k4⟩, k5⟩ := hp
  rw [Nat.sub_zero] at k4
  have hnL : nL L na 160 := by rcases hna with h | h <;> rw [h] <;> assumption
  replace k4 : nV σ2 na 160 (hvv F d z lev) := k4
  refine q_callV (As := [.ref na]) (c_Nu_copy l K hLo hnL (by rcases hna with h | h <;> rw [h] <;> omega) k4 (lim_up (lim_ofI bL) (by decide))) w_cd_Nu_copy w_ini_Nu w_ml_He_202 w_im_Nu_copy w_se_Nu_copy hLo.1.1 rfl hd_Nu_copy rfl (Nat.le_of_ble_eq_true rfl) d_He_guessOnLine_31 (by decide) (by decide) (fun v σ3 hp => ?_)
  obtain ⟨rfl, k6, k7⟩ := hp
  clear hnL hna k4 na
  refine q_aload_n d_He_guessOnLine_34 rfl ?_
  refine q_aload d_He_guessOnLine_35 rfl ?_
  refine q_callV (As := [.ref (B + 25)]) (c_Ro_toHigh l K (u := 11) (lev := lev) hro hpt (by omega) (((ha.mv (k3 _ (by omega) (by omega) (by omega)) (k3 _ (by omega) (by omega) (by omega))).mv (k5 _ (by omega)) (k5 _ (by omega))).mv (k7 _ (by omega) (by omega)) (k7 _ (by omega) (by omega))) (by rw [k7 _ (by omega) (by omega), k5 _ (by omega), k3 _ (by omega) (by omega) (by omega)]; exact hlev) hzb (by omega) (by omega)) w_cd_Ro_toHigh w_ini_Ro w_ml_He_207 w_im_Ro_toHigh w_se_Ro_toHigh hro.1 rfl hd_Ro_toHigh rfl (Nat.le_of_ble_eq_true rfl) d_He_guessOnLine_37 (by decide) (by decide) (fun v σ4 hp => ?_)
  obtain ⟨rfl, k8, ⟨k9, k9b⟩, k10⟩ := hp
  refine q_aload_n d_He_guessOnLine_40 rfl ?_
  refine q_gr hb0 pc_Be 5 (by decide) w_fl_He_210 rfl (by rfl) d_He_guessOnLine_41 ?_
  refine q_aload_n d_He_guessOnLine_44 rfl ?_
  refine q_aload_n d_He_guessOnLine_45 rfl ?_
  refine q_gr hH0 pc_He 2 (by decide) w_fl_He_29 rfl (by rfl) d_He_guessOnLine_46 ?_
  refine q_gr hc0 pc_Ch 0 (by decide) w_fl_He_57 rfl (by rfl) d_He_guessOnLine_49 ?_
  refine q_iconst d_He_guessOnLine_52 rfl ?_
  refine q_aal (0) 5 (b := a + 24) rfl hg1 (by omega) (by omega) (by omega) (hg2 0 (by decide)) d_He_guessOnLine_53 ?_
  refine q_aload d_He_guessOnLine_54 rfl ?_
  refine q_callV (As := [.ref (a + 24), .ref (B + 25)]) (c_Be_valueAt l K σ4 (x := B + 25) (n := d 0) (z := 0) (ex := ptE lev) (u := uM (d 0)) (v := vM (d 0)) (c := cM d 0) (X := ptX (z + 1) lev) (P := F 0) hbV hp0 hpt (Or.inl rfl) (by omega) (by omega) (by omega) (by rw [k10 _ (by omega) (by omega) (by omega) (by omega) (by omega), k7 _ (by omega) (by omega), k5 _ (by omega), k3 _ (by omega) (by omega) (by omega)]; exact c1.2.1.trans (by omega)) (fun j hj => (c1.2.2 j hj).mv (by rw [k10 _ (by omega) (by omega) (by omega) (by omega) (by omega), k7 _ (by omega) (by omega), k5 _ (by omega), k3 _ (by omega) (by omega) (by omega)]) (by rw [k10 _ (by omega) (by omega) (by omega) (by omega) (by omega), k7 _ (by omega) (by omega), k5 _ (by omega), k3 _ (by omega) (by omega) (by omega)])) k9 (k9b.trans (ptE_m _)) (by omega) fH.1 (fun j hj => hg.cb 0 (by omega) j hj) (fH.2.1 0 (by omega)) huv (fH.2.2 0 (by omega))) w_cd_Be_valueAt w_ini_Be w_ml_He_170 w_im_Be_valueAt w_se_Be_valueAt hb0 rfl hd_Be_valueAt rfl (Nat.le_of_ble_eq_true rfl) d_He_guessOnLine_56 (by decide) (by decide) (fun v σ5 hp => ?_)
  obtain ⟨⟨na, rfl, hna, k11⟩, k12⟩ := hp
  rw [Nat.sub_zero] at k11
  have hnL : nL L na 160 := by rcases hna with h | h <;> rw [h] <;> assumption
  replace k11 : nV σ5 na 160 (hvv F d (z + 1) lev) := k11
  refine q_callV (As := [.ref na]) (c_Nu_copy l K hUp hnL (by rcases hna with h | h <;> rw [h] <;> omega) k11 (lim_up (lim_ofI bH) (by decide))) w_cd_Nu_copy w_ini_Nu w_ml_He_202 w_im_Nu_copy w_se_Nu_copy hUp.1.1 rfl hd_Nu_copy rfl (Nat.le_of_ble_eq_true rfl) d_He_guessOnLine_59 (by decide) (by decide) (fun v σ6 hp => ?_)
  obtain ⟨rfl, k13, k14⟩ := hp
  clear hnL hna k11 na
  refine q_aload_n d_He_guessOnLine_62 rfl ?_
  refine q_gr hb0 pc_Be 5 (by decide) w_fl_He_210 rfl (by rfl) d_He_guessOnLine_63 ?_
  refine q_aload_n d_He_guessOnLine_66 rfl ?_
  refine q_gr hb0 pc_Be 4 (by decide) w_fl_He_205 rfl (by rfl) d_He_guessOnLine_67 ?_
  refine q_iconst d_He_guessOnLine_70 rfl ?_
  refine q_callV (As := [.ref (B + 9), vi (-1)]) (c_Nu_add l K hUp hLo (by omega) k13 (((k6.mv (k10 _ (by omega) (by omega) (by omega) (by omega) (by omega)) (k10 _ (by omega) (by omega) (by omega) (by omega) (by omega))).mv (k12 _ (by omega)) (k12 _ (by omega))).mv (k14 _ (by omega) (by omega)) (k14 _ (by omega) (by omega))) (Or.inr rfl) (lim_up (lim_ofI bH) (by decide)) (lim_up (lim_ofI bL) (by decide))) w_cd_Nu_add w_ini_Nu w_ml_He_213 w_im_Nu_add w_se_Nu_add hUp.1.1 rfl hd_Nu_add rfl (Nat.le_of_ble_eq_true rfl) d_He_guessOnLine_71 (by decide) (by decide) (fun v σ7 hp => ?_)
  obtain ⟨rfl, k15, k16⟩ := hp
  refine q_aload_n d_He_guessOnLine_74 rfl ?_
  refine q_gr hb0 pc_Be 5 (by decide) w_fl_He_210 rfl (by rfl) d_He_guessOnLine_75 ?_
  refine q_aload_n d_He_guessOnLine_78 rfl ?_
  refine q_gr hb0 pc_Be 5 (by decide) w_fl_He_210 rfl (by rfl) d_He_guessOnLine_79 ?_
  refine q_gi hUp.1.1 pc_Nu 2 (by decide) w_fl_He_124 rfl (by rfl) d_He_guessOnLine_82 ?_
  refine q_topi k15.sgn ?_
  have r1 := sgn_b (hvv F d (z + 1) lev + -1 * hvv F d z lev)
  refine q_mabs (by omega) w_ml_He_216 d_He_guessOnLine_85 (by decide) (Nat.le_of_ble_eq_true rfl) ?_
  refine q_pi hUp.1.1 pc_Nu 2 (by decide) w_fl_He_124 rfl rfl rfl rfl (by rfl) d_He_guessOnLine_88 ?_
  have k15b := nV_abs k15
  have k17 : ∀ q, q ≠ B + 11 → q_up σ7 (B + 11) 2 ((hvv F d (z + 1) lev + -1 * hvv F d z lev).sign.natAbs : Int) q = σ7 q := fun q hq => q_up_a _ _ hq
  generalize q_up σ7 (B + 11) 2 ((hvv F d (z + 1) lev + -1 * hvv F d z lev).sign.natAbs : Int) = σ8 at *
  have k6b := (((((k6.mv (k10 _ (by omega) (by omega) (by omega) (by omega) (by omega)) (k10 _ (by omega) (by omega) (by omega) (by omega) (by omega))).mv (k12 _ (by omega)) (k12 _ (by omega))).mv (k14 _ (by omega) (by omega)) (k14 _ (by omega) (by omega))).mv (k16 _ (by omega) (by omega)) (k16 _ (by omega) (by omega))).mv (k17 _ (by omega)) (k17 _ (by omega)))
  refine q_aload_n d_He_guessOnLine_91 rfl ?_
  refine q_gr hb0 pc_Be 4 (by decide) w_fl_He_205 rfl (by rfl) d_He_guessOnLine_92 ?_
  refine q_aload_n d_He_guessOnLine_95 rfl ?_
  refine q_gr hb0 pc_Be 4 (by decide) w_fl_He_205 rfl (by rfl) d_He_guessOnLine_96 ?_
  refine q_gi hLo.1.1 pc_Nu 2 (by decide) w_fl_He_124 rfl (by rfl) d_He_guessOnLine_99 ?_
  refine q_topi k6b.sgn ?_
  have r2 := sgn_b (hvv F d z lev)
  refine q_mabs (by omega) w_ml_He_216 d_He_guessOnLine_102 (by decide) (Nat.le_of_ble_eq_true rfl) ?_
  refine q_pi hLo.1.1 pc_Nu 2 (by decide) w_fl_He_124 rfl rfl rfl rfl (by rfl) d_He_guessOnLine_105 ?_
  have k6c := nV_abs k6b
  have k18 : ∀ q, q ≠ B + 9 → q_up σ8 (B + 9) 2 ((hvv F d z lev).sign.natAbs : Int) q = σ8 q := fun q hq => q_up_a _ _ hq
  generalize q_up σ8 (B + 9) 2 ((hvv F d z lev).sign.natAbs : Int) = σ9 at *
  refine q_aload_n d_He_guessOnLine_108 rfl ?_
  refine q_gr hb0 pc_Be 4 (by decide) w_fl_He_205 rfl (by rfl) d_He_guessOnLine_109 ?_
  refine q_iload_n d_He_guessOnLine_112 rfl ?_
  refine q_iconst d_He_guessOnLine_113 rfl ?_
  refine q_iadd d_He_guessOnLine_114 ?_
  refine q_topi (show (w : Int) + 1 = ((w + 1 : Nat) : Int) by omega) ?_
  refine q_callV (As := [vi ((w + 1 : Nat) : Int)]) (c_Nu_shiftUp l K (u := 90) (p := w + 1) hLo k6c (by rw [Int.natAbs_natCast]; exact lim_up (lim_ofI bL) (by decide)) (by omega)) w_cd_Nu_shiftUp w_ini_Nu w_ml_He_219 w_im_Nu_shiftUp w_se_Nu_shiftUp hLo.1.1 rfl hd_Nu_shiftUp rfl (Nat.le_of_ble_eq_true rfl) d_He_guessOnLine_115 (by decide) (by decide) (fun v σ10 hp => ?_)
  obtain ⟨rfl, k19, k20⟩ := hp
  refine q_aload_n d_He_guessOnLine_118 rfl ?_
  refine q_gr hb0 pc_Be 4 (by decide) w_fl_He_205 rfl (by rfl) d_He_guessOnLine_119 ?_
  refine q_aload_n d_He_guessOnLine_122 rfl ?_
  refine q_gr hb0 pc_Be 5 (by decide) w_fl_He_210 rfl (by rfl) d_He_guessOnLine_123 ?_
  refine q_iconst d_He_guessOnLine_126 rfl ?_
  refine q_callV (As := [.ref (B + 11), vi 1]) (c_Nu_add l K hLo hUp (by omega) k19 ((k15b.mv (k18 _ (by omega)) (k18 _ (by omega))).mv (k20 _ (by omega) (by omega)) (k20 _ (by omega) (by omega))) (Or.inl rfl) (lim_up (lim_ofI bS) (by omega)) (by rw [Int.natAbs_natCast]; exact lim_up (lim_ofI bU) (by decide))) w_cd_Nu_add w_ini_Nu w_ml_He_213 w_im_Nu_add w_se_Nu_add hLo.1.1 rfl hd_Nu_add rfl (Nat.le_of_ble_eq_true rfl) d_He_guessOnLine_127 (by decide) (by decide) (fun v σ11 hp => ?_)
  obtain ⟨rfl, k21, k22⟩ := hp
  refine q_aload_n d_He_guessOnLine_130 rfl ?_
  refine q_gr hb0 pc_Be 5 (by decide) w_fl_He_210 rfl (by rfl) d_He_guessOnLine_131 ?_
  refine q_iconst d_He_guessOnLine_134 rfl ?_
  refine q_callV (As := [vi ((1 : Nat) : Int)]) (c_Nu_shiftUp l K (u := 90) (p := 1) hUp (((k15b.mv (k18 _ (by omega)) (k18 _ (by omega))).mv (k20 _ (by omega) (by omega)) (k20 _ (by omega) (by omega))).mv (k22 _ (by omega) (by omega)) (k22 _ (by omega) (by omega))) (by rw [Int.natAbs_natCast]; exact lim_up (lim_ofI bU) (by decide)) (by omega)) w_cd_Nu_shiftUp w_ini_Nu w_ml_He_219 w_im_Nu_shiftUp w_se_Nu_shiftUp hUp.1.1 rfl hd_Nu_shiftUp rfl (Nat.le_of_ble_eq_true rfl) d_He_guessOnLine_135 (by decide) (by decide) (fun v σ12 hp => ?_)
  obtain ⟨rfl, k23, k24⟩ := hp
  refine q_aload_n d_He_guessOnLine_138 rfl ?_
  refine q_gr hb0 pc_Be 13 (by decide) w_fl_He_222 rfl (by rfl) d_He_guessOnLine_139 ?_
  refine q_aload_n d_He_guessOnLine_142 rfl ?_
  refine q_gr hb0 pc_Be 4 (by decide) w_fl_He_205 rfl (by rfl) d_He_guessOnLine_143 ?_
  refine q_aload_n d_He_guessOnLine_146 rfl ?_
  refine q_gr hb0 pc_Be 5 (by decide) w_fl_He_210 rfl (by rfl) d_He_guessOnLine_147 ?_
  have bN : hid (((((hvv F d z lev).natAbs : Int) * 2 ^ (w + 1) + 1 * ((hvv F d (z + 1) lev + -1 * hvv F d z lev).natAbs : Int)).natAbs : Int) < 2147483648 ^ 158) := lim_up (lim_ofI (sum_bd (up_bd bS (show 2784 + (w + 1) ≤ 3189 by omega)) (up_bd (k := 2785) (by rw [Int.natAbs_natCast]; exact bU) (show 2785 ≤ 3189 by omega)))) (by decide)
  have bD : hid (((((hvv F d (z + 1) lev + -1 * hvv F d z lev).natAbs : Int) * 2 ^ 1).natAbs : Int) < 2147483648 ^ 158) := lim_up (lim_ofI (shl_bd bU)) (by decide)
  refine q_callV (As := [.ref (B + 9), .ref (B + 11)]) (c_Di_divide l K hdi hLo hUp (by omega) (by omega) (k21.mv (k24 _ (by omega) (by omega)) (k24 _ (by omega) (by omega))) k23 hU1 bN bD) w_cd_Di_divide w_ini_Di w_ml_He_226 w_im_Di_divide w_se_Di_divide hdi.1 rfl hd_Di_divide rfl (Nat.le_of_ble_eq_true rfl) d_He_guessOnLine_150 (by decide) (by decide) (fun v σ13 hp => ?_)
  obtain ⟨rfl, k25, k26, k27⟩ := hp
  refine q_aload_n d_He_guessOnLine_153 rfl ?_
  refine q_gr hb0 pc_Be 6 (by decide) w_fl_He_192 rfl (by rfl) d_He_guessOnLine_154 ?_
  refine q_aload_n d_He_guessOnLine_157 rfl ?_
  refine q_gr hro.1 pc_Ro 0 (by decide) w_fl_He_150 rfl (by rfl) d_He_guessOnLine_158 ?_
  refine q_callV (As := [.ref (a + 153 + 3 * i + 1)]) (c_Nu_copy l K hGu hro.2 (by omega) (((((((((k8.mv (k12 _ (by omega)) (k12 _ (by omega))).mv (k14 _ (by omega) (by omega)) (k14 _ (by omega) (by omega))).mv (k16 _ (by omega) (by omega)) (k16 _ (by omega) (by omega))).mv (k17 _ (by omega)) (k17 _ (by omega))).mv (k18 _ (by omega)) (k18 _ (by omega))).mv (k20 _ (by omega) (by omega)) (k20 _ (by omega) (by omega))).mv (k22 _ (by omega) (by omega)) (k22 _ (by omega) (by omega))).mv (k24 _ (by omega) (by omega)) (k24 _ (by omega) (by omega))).mv (k27 _ (by omega)) (k27 _ (by omega))) (lim_up hzb (by decide))) w_cd_Nu_copy w_ini_Nu w_ml_He_202 w_im_Nu_copy w_se_Nu_copy hGu.1.1 rfl hd_Nu_copy rfl (Nat.le_of_ble_eq_true rfl) d_He_guessOnLine_161 (by decide) (by decide) (fun v σ14 hp => ?_)
  obtain ⟨rfl, k28, k29⟩ := hp
  refine q_aload_n d_He_guessOnLine_164 rfl ?_
  refine q_gr hb0 pc_Be 6 (by decide) w_fl_He_192 rfl (by rfl) d_He_guessOnLine_165 ?_
  refine q_iload_n d_He_guessOnLine_168 rfl ?_
  refine q_callV (As := [vi (w : Int)]) (c_Nu_shiftUp l K (u := 11) (p := w) hGu k28 hzb (by omega)) w_cd_Nu_shiftUp w_ini_Nu w_ml_He_219 w_im_Nu_shiftUp w_se_Nu_shiftUp hGu.1.1 rfl hd_Nu_shiftUp rfl (Nat.le_of_ble_eq_true rfl) d_He_guessOnLine_169 (by decide) (by decide) (fun v σ15 hp => ?_)
  obtain ⟨rfl, k30, k31⟩ := hp
  refine q_aload_n d_He_guessOnLine_172 rfl ?_
  refine q_gr hb0 pc_Be 6 (by decide) w_fl_He_192 rfl (by rfl) d_He_guessOnLine_173 ?_
  refine q_aload_n d_He_guessOnLine_176 rfl ?_
  refine q_gr hb0 pc_Be 13 (by decide) w_fl_He_222 rfl (by rfl) d_He_guessOnLine_177 ?_
  refine q_gr hdi.1 pc_Di 0 (by decide) w_fl_He_232 rfl (by rfl) d_He_guessOnLine_180 ?_
  refine q_iconst d_He_guessOnLine_183 rfl ?_
  have bG : hid (((z * 2 ^ w).natAbs : Int) < 2147483648 ^ (160 - 1)) := lim_up (lim_ofI (shl_bdI (up_bd zL (show (32 + lev).toNat ≤ 340 by omega)))) (by omega)
  have bQ : hid ((((((hvv F d z lev).natAbs : Int) * 2 ^ (w + 1) + 1 * ((hvv F d (z + 1) lev + -1 * hvv F d z lev).natAbs : Int)).tdiv (((hvv F d (z + 1) lev + -1 * hvv F d z lev).natAbs : Int) * 2 ^ 1)).natAbs : Int) < 2147483648 ^ (160 - 1)) := by
    have h1 := nab_le (k := w) (show -2 ^ w ≤ _ from Int.le_trans (by have := ip_pos (B := 2) (by decide) w; omega) hgq.1) hgq.2
    exact lim_up (lim_ofI h1) (by omega)
  refine q_callV (As := [.ref (B + 29), vi 1]) (c_Nu_add l K hGu hqu (by omega) k30 ((k25.mv (k29 _ (by omega) (by omega)) (k29 _ (by omega) (by omega))).mv (k31 _ (by omega) (by omega)) (k31 _ (by omega) (by omega))) (Or.inl rfl) bG bQ) w_cd_Nu_add w_ini_Nu w_ml_He_213 w_im_Nu_add w_se_Nu_add hGu.1.1 rfl hd_Nu_add rfl (Nat.le_of_ble_eq_true rfl) d_He_guessOnLine_184 (by decide) (by decide) (fun v σ16 hp => ?_)
  obtain ⟨rfl, k32, k33⟩ := hp
  have hgq2 := hgq
  unfold hid at hgq2
  exact q_vret rfl (⟨rfl, ⟨_, k32, by omega, by rw [Int.add_mul]; omega⟩, ((((((((((((k8.mv (k12 _ (by omega)) (k12 _ (by omega))).mv (k14 _ (by omega) (by omega)) (k14 _ (by omega) (by omega))).mv (k16 _ (by omega) (by omega)) (k16 _ (by omega) (by omega))).mv (k17 _ (by omega)) (k17 _ (by omega))).mv (k18 _ (by omega)) (k18 _ (by omega))).mv (k20 _ (by omega) (by omega)) (k20 _ (by omega) (by omega))).mv (k22 _ (by omega) (by omega)) (k22 _ (by omega) (by omega))).mv (k24 _ (by omega) (by omega)) (k24 _ (by omega) (by omega))).mv (k27 _ (by omega)) (k27 _ (by omega))).mv (k29 _ (by omega) (by omega)) (k29 _ (by omega) (by omega))).mv (k31 _ (by omega) (by omega)) (k31 _ (by omega) (by omega))).mv (k33 _ (by omega) (by omega)) (k33 _ (by omega) (by omega))), fun q h1 h2 h3 => by rw [k33 q (by omega) (by omega), k31 q (by omega) (by omega), k29 q (by omega) (by omega), k27 q (by omega), k24 q (by omega) (by omega), k22 q (by omega) (by omega), k20 q (by omega) (by omega), k18 q (by omega), k17 q (by omega), k16 q (by omega) (by omega), k14 q (by omega) (by omega), k12 q (by omega), k10 q (by omega) (by omega) (by omega) (by omega) (by omega), k7 q (by omega) (by omega), k5 q (by omega), k3 q (by omega) (by omega) (by omega)]⟩) d_He_guessOnLine_187
