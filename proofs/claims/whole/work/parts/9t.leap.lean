/-! HELD: leap -/
theorem hvv_sg (F : Nat → Nat → Int) (d : Nat → Nat) (z lev : Int) : (hvv F d z lev).sign = sgr (lk F d 0 (dy z lev)) := lks_sg F d z lev 0
theorem hvv_k (F : Nat → Nat → Int) (d : Nat → Nat) (z lev : Int) (w : Nat) : (hvv F d (z * 2 ^ w) (lev + w)).sign = (hvv F d z lev).sign := by rw [hvv_sg, hvv_sg, dy_k]
/-- what a leap leaves: the cell z' of the finer level -/
def lpd (F : Nat → Nat → Int) (d : Nat → Nat) (z lev ls : Int) (w : Nat) (z' x' : Int) : Prop := z * 2 ^ w ≤ z' ∧ z' ≤ (z + 1) * 2 ^ w ∧ ((x' = 1 ∧ (hvv F d z' (lev + w)).sign = 0) ∨ (x' = 0 ∧ (hvv F d z' (lev + w)).sign = ls ∧ (hvv F d (z' + 1) (lev + w)).sign = -ls))
theorem zmul {z lev : Int} {w : Nat} (h : zin z lev) (hl : -32 ≤ lev) : -2 ^ (32 + (lev + w)).toNat ≤ z * 2 ^ w ∧ (z + 1) * 2 ^ w ≤ 2 ^ (32 + (lev + w)).toNat := by
  have e : (2 : Int) ^ (32 + (lev + w)).toNat = 2 ^ (32 + lev).toNat * 2 ^ w := by rw [← Int.pow_add]; congr 1; omega
  have hp := Int.le_of_lt (ip_pos (B := 2) (by decide) w)
  have h1 := Int.mul_le_mul_of_nonneg_right h.1 hp
  have h2 := Int.mul_le_mul_of_nonneg_right h.2 hp
  rw [e]
  rw [Int.neg_mul] at h1
  exact ⟨h1, h2⟩
theorem gbd {z lev G : Int} {w : Nat} (h : zin z lev) (hl : -32 ≤ lev) (h1 : z * 2 ^ w ≤ G) (h2 : G ≤ (z + 1) * 2 ^ w) : G.natAbs ≤ 2 ^ (32 + (lev + w)).toNat := by
  have := zmul (w := w) h hl
  exact nab_le (by omega) (by omega)
theorem pm_bd {x y : Int} {k : Nat} (h : x.natAbs ≤ 2 ^ k) (hy : y = 1 ∨ y = -1) : (x + y).natAbs ≤ 2 ^ (k + 1) := by
  have := Nat.pow_pos (a := 2) (n := k) (by omega)
  rw [Nat.pow_succ]
  generalize 2 ^ k = A at *
  omega
set_option maxHeartbeats 4000000 in
set_option maxRecDepth 100000 in
theorem c_He_leap (l : Launch) (K : pw_K) {L : q_L} {σ : q_S} {a B i n M w : Nat} {P : Nat → Int} {F : Nat → Nat → Int} {d : Nat → Nat} {z lev ls : Int} (hL : heL L a) (hbL : beL L B) (hdj : a + 177 ≤ B ∨ B + 91 ≤ a) (hi : i < 8) (hg : gch P n M F d) (hc : cst σ a M F d) (ha : nV σ (a + 153 + 3 * i + 1) 48 z) (hlev : σ (a + 153 + 3 * i) 1 = lev) (hlsv : σ (a + 153 + 3 * i) 2 = ls) (hz : zin z lev) (hl : -32 ≤ lev ∧ lev + w ≤ 308) (hw : w ≤ 400) (hls : ls = 1 ∨ ls = -1) (hs1 : (hvv F d z lev).sign = ls) (hs2 : (hvv F d (z + 1) lev).sign = -ls) : q_C l K L y_He_leap b_He_leap 10 (some .boolean) 6 [.ref a, .ref (a + 153 + 3 * i), vi (w : Int), .ref B] σ (fun r σ' => ((r = some (vi 0) ∧ nV σ' (a + 153 + 3 * i + 1) 48 z ∧ σ' (a + 153 + 3 * i) = σ (a + 153 + 3 * i)) ∨ (r = some (vi 1) ∧ ∃ z' x', lpd F d z lev ls w z' x' ∧ nV σ' (a + 153 + 3 * i + 1) 48 z' ∧ σ' (a + 153 + 3 * i) 1 = lev + (w : Int) ∧ σ' (a + 153 + 3 * i) 4 = x' ∧ ∀ k, k ≠ 1 → k ≠ 4 → σ' (a + 153 + 3 * i) k = σ (a + 153 + 3 * i) k)) ∧ (∀ q, (q ≤ B ∨ (B + 7 ≤ q ∧ q ≤ B + 8) ∨ (B + 15 ≤ q ∧ q ≤ B + 24) ∨ B + 35 ≤ q) → (q < a + 153 + 3 * i ∨ a + 153 + 3 * i + 2 < q) → σ' q = σ q)) := by
  have hLL := hL
  obtain ⟨hH0, -, -, hch, ⟨rg, hrg, hrg2⟩, hroA⟩ := hL
  have hro := hroA i hi
  obtain ⟨hc0, ⟨g, hg1, hg2⟩, hpl⟩ := hch
  have hb0 := hbL.1
  have hbV := hbL.vb
  have hpt : ptL L (B + 25) := hbL.2.2.1
  have h1L : nL L (B + 1) 160 := hbL.2.1 0 (by decide)
  have h3L : nL L (B + 3) 160 := hbL.2.1 1 (by decide)
  have hGu : nL L (B + 13) 160 := hbL.2.1 6 (by decide)
  have hp0 : pL L (a + 24) 9 48 := hpl 0 (by decide)
  have hd8 : d 0 ≤ 8 := by have := hg.cnt; have := hg.2.2.1; omega
  have hLV := LV_ge (d 0)
  have huv := uvM (d 0) hd8
  have hE : ptE (lev + (w : Int)) ≤ LV (d 0) := ptE_le (by omega)
  have hEm := ptE_m (lev + (w : Int))
  have c1 : d 0 < 9 ∧ σ (a + 24) 1 = (d 0 : Int) ∧ ∀ c, c ≤ d 0 → nV σ (a + 24 + 2 + 2 * c) 48 (F 0 c) := hc.2.2 0 (Nat.zero_le _)
  have sk : (hvv F d (z * 2 ^ w) (lev + (w : Int))).sign = ls := (hvv_k F d z lev w).trans hs1
  have sk2 : (hvv F d ((z + 1) * 2 ^ w) (lev + (w : Int))).sign = -ls := (hvv_k F d (z + 1) lev w).trans hs2
  have hgb : hid (∀ G : Int, z * 2 ^ w ≤ G → G ≤ (z + 1) * 2 ^ w → G.natAbs ≤ 2 ^ (32 + (lev + (w : Int))).toNat) := fun G h1 h2 => gbd hz hl.1 h1 h2
  have hz0 : hid (zin z lev) := hz
  clear hz
  refine q_start [some (.ref a), some (.ref (a + 153 + 3 * i)), some (vi (w : Int)), some (.ref B), none, none, none, none, none, none] (by decide) (Nat.le_of_ble_eq_true rfl) (fun q h => h) ?_
  have tail : ∀ (σ1 : q_S) (f1 s1 z' : Int), nV σ1 (B + 13) 160 z' → (-1 ≤ s1 ∧ s1 ≤ 1) → lpd F d z lev ls w z' (if s1 = 0 then 1 else 0) → σ1 (a + 153 + 3 * i) = σ (a + 153 + 3 * i) → (∀ q, (q ≤ B ∨ (B + 7 ≤ q ∧ q ≤ B + 8) ∨ (B + 15 ≤ q ∧ q ≤ B + 24) ∨ B + 35 ≤ q) → (q < a + 153 + 3 * i ∨ a + 153 + 3 * i + 2 < q) → σ1 q = σ q) → q_T l K L R_He b_He_leap 10 (some .boolean) 6 (fun r σ' => ((r = some (vi 0) ∧ nV σ' (a + 153 + 3 * i + 1) 48 z ∧ σ' (a + 153 + 3 * i) = σ (a + 153 + 3 * i)) ∨ (r = some (vi 1) ∧ ∃ z' x', lpd F d z lev ls w z' x' ∧ nV σ' (a + 153 + 3 * i + 1) 48 z' ∧ σ' (a + 153 + 3 * i) 1 = lev + (w : Int) ∧ σ' (a + 153 + 3 * i) 4 = x' ∧ ∀ k, k ≠ 1 → k ≠ 4 → σ' (a + 153 + 3 * i) k = σ (a + 153 + 3 * i) k)) ∧ (∀ q, (q ≤ B ∨ (B + 7 ≤ q ∧ q ≤ B + 8) ∨ (B + 15 ≤ q ∧ q ≤ B + 24) ∨ B + 35 ≤ q) → (q < a + 153 + 3 * i ∨ a + 153 + 3 * i + 2 < q) → σ' q = σ q)) 143 [some (.ref a), some (.ref (a + 153 + 3 * i)), some (vi (w : Int)), some (.ref B), some (.ref (a + 24)), some (.ref (B + 25)), some (.ref (B + 13)), some (vi (lev + (w : Int))), some (vi f1), some (vi s1)] [] σ1 := by
    intro σ1 f1 s1 z' m1 m2 m3 m4 m5
    have hzb : hid ((z'.natAbs : Int) < 2147483648 ^ 48) := lim_up (lim_ofI (up_bd (hgb z' m3.1 m3.2.1) (show (32 + (lev + (w : Int))).toNat ≤ 340 by omega))) (by decide)
    refine q_aload_n d_He_leap_143 rfl ?_
    refine q_gr hro.1 pc_Ro 0 (by decide) w_fl_He_150 rfl (by rfl) d_He_leap_144 ?_
    refine q_aload d_He_leap_147 rfl ?_
    refine q_callV (As := [.ref (B + 13)]) (c_Nu_copy l K hro.2 hGu (by omega) m1 hzb) w_cd_Nu_copy w_ini_Nu w_ml_He_202 w_im_Nu_copy w_se_Nu_copy hro.2.1.1 rfl hd_Nu_copy rfl (Nat.le_of_ble_eq_true rfl) d_He_leap_149 (by decide) (by decide) (fun v σ2 hp => ?_)
    obtain ⟨rfl, k1, k2⟩ := hp
    refine q_aload_n d_He_leap_152 rfl ?_
    refine q_iload d_He_leap_153 rfl ?_
    refine q_pi hro.1 pc_Ro 1 (by decide) w_fl_He_156 rfl rfl rfl rfl (by rfl) d_He_leap_155 ?_
    refine q_aload_n d_He_leap_158 rfl ?_
    refine q_iload d_He_leap_159 rfl ?_
    refine q_jn1 (V := (if s1 = 0 then (1 : Int) else 0)) 169 (fun jn => ?_) ?_
    · refine q_if_ne (tgt := 168) (by omega) d_He_leap_161 (by decide) (fun cs => ?_) (fun cs => ?_)
      · refine q_iconst d_He_leap_168 rfl ?_
        exact jn _ ((if_neg cs).symm)
      · refine q_iconst d_He_leap_164 rfl ?_
        refine q_goto (tgt := 169) d_He_leap_165 (by decide) ?_
        exact jn _ ((if_pos cs).symm)
    · refine q_pi hro.1 pc_Ro 4 (by decide) w_fl_He_177 rfl rfl (by split <;> rfl) (by split <;> rfl) (by rfl) d_He_leap_169 ?_
      refine q_iconst d_He_leap_172 rfl ?_
      exact q_zret rfl (by omega) (⟨Or.inr ⟨rfl, z', _, m3, (k1.mv (q_up_a _ _ (by omega)) (q_up_a _ _ (by omega))).mv (q_up_a _ _ (by omega)) (q_up_a _ _ (by omega)), by rw [q_up_k _ _ (by decide), q_up_self], q_up_self _ _ _ _, fun k h1 h2 => by rw [q_up_k _ _ h2, q_up_k _ _ h1, k2 _ (by omega) (by omega), m4]⟩, fun q h1 h2 => by rw [q_up_a _ _ (by omega), q_up_a _ _ (by omega), k2 q (by omega) (by omega)]; exact m5 q h1 h2⟩) d_He_leap_173
  refine q_aload_n d_He_leap_0 rfl ?_
  refine q_gr hH0 pc_He 2 (by decide) w_fl_He_29 rfl (by rfl) d_He_leap_1 ?_
  refine q_gr hc0 pc_Ch 0 (by decide) w_fl_He_57 rfl (by rfl) d_He_leap_4 ?_
  refine q_iconst d_He_leap_7 rfl ?_
  refine q_aal (0) 5 (b := a + 24) rfl hg1 (by omega) (by omega) (by omega) (hg2 0 (by decide)) d_He_leap_8 ?_
  refine q_ast_4 d_He_leap_9 (by decide) rfl ?_
  refine q_aload_n d_He_leap_11 rfl ?_
  refine q_gr hb0 pc_Be 12 (by decide) w_fl_He_140 rfl (by rfl) d_He_leap_12 ?_
  refine q_ast_5 d_He_leap_15 (by decide) rfl ?_
  refine q_aload_n d_He_leap_17 rfl ?_
  refine q_aload_n d_He_leap_18 rfl ?_
  refine q_iload_n d_He_leap_19 rfl ?_
  refine q_aload_n d_He_leap_20 rfl ?_
  refine q_callV (As := [.ref (a + 153 + 3 * i), vi (w : Int), .ref B]) (c_He_guessOnLine l K (F := F) (d := d) (lev := lev) hLL hbL hdj hi hg hc ha hlev hz0 (by omega) hw (by omega) (by omega)) w_cd_He_guessOnLine w_ini_He w_ml_He_188 w_im_He_guessOnLine w_se_He_guessOnLine hH0 rfl hd_He_guessOnLine rfl (Nat.le_of_ble_eq_true rfl) d_He_leap_21 (by decide) (by decide) (fun v σ1 hp => ?_)
  obtain ⟨rfl, ⟨G, g1, g2, g3⟩, k1, k2⟩ := hp
  have kr : σ1 (a + 153 + 3 * i) = σ (a + 153 + 3 * i) := k2 _ (by omega) (by omega) (by omega)
  have hGb : hid _ := hgb G g2 g3
  have fG : hid _ := hg.fit (pt_bd (Lm := LV (d 0)) hGb (by omega) (by omega)) hE
  have hGl : hid ((G.natAbs : Int) < 2147483648 ^ 12) := lim_up (lim_ofI (up_bd hGb (show (32 + (lev + (w : Int))).toNat ≤ 340 by omega))) (by decide)
  refine q_aload_n d_He_leap_24 rfl ?_
  refine q_gr hb0 pc_Be 6 (by decide) w_fl_He_192 rfl (by rfl) d_He_leap_25 ?_
  refine q_ast_6 d_He_leap_28 (by decide) rfl ?_
  refine q_aload_n d_He_leap_30 rfl ?_
  refine q_gi hro.1 pc_Ro 1 (by decide) w_fl_He_156 rfl (by rfl) d_He_leap_31 ?_
  refine q_topi (show _ = lev by rw [kr]; exact hlev) ?_
  refine q_iload_n d_He_leap_34 rfl ?_
  refine q_iadd d_He_leap_35 ?_
  refine q_ist_7 d_He_leap_36 (by decide) rfl ?_
  refine q_aload d_He_leap_38 rfl ?_
  refine q_aload d_He_leap_40 rfl ?_
  refine q_iload d_He_leap_42 rfl ?_
  refine q_callV (As := [.ref (B + 13), vi (lev + (w : Int))]) (c_Pt_place l K (u := 12) hpt hGu (by omega) g1 hGl (by omega) (by omega)) w_cd_Pt_place w_ini_Pt w_ml_He_195 w_im_Pt_place w_se_Pt_place hpt.1 rfl hd_Pt_place rfl (Nat.le_of_ble_eq_true rfl) d_He_leap_44 (by decide) (by decide) (fun v σ2 hp => ?_)
  obtain ⟨rfl, k3, k4, k5⟩ := hp
  refine q_aload_n d_He_leap_47 rfl ?_
  refine q_aload d_He_leap_48 rfl ?_
  refine q_aload d_He_leap_50 rfl ?_
  refine q_callV (As := [.ref (a + 24), .ref (B + 25)]) (c_Be_valueAt l K σ2 (x := B + 25) (n := d 0) (z := 0) (ex := ptE (lev + (w : Int))) (u := uM (d 0)) (v := vM (d 0)) (c := cM d 0) (X := ptX (G) (lev + (w : Int))) (P := F 0) hbV hp0 hpt (Or.inl rfl) (by omega) (by omega) (by omega) (by rw [k5 _ (by omega) (by omega) (by omega), k2 _ (by omega) (by omega) (by omega)]; exact c1.2.1.trans (by omega)) (fun j hj => (c1.2.2 j hj).mv (by rw [k5 _ (by omega) (by omega) (by omega), k2 _ (by omega) (by omega) (by omega)]) (by rw [k5 _ (by omega) (by omega) (by omega), k2 _ (by omega) (by omega) (by omega)])) k3 (k4.trans hEm) (by omega) fG.1 (fun j hj => hg.cb 0 (by omega) j hj) (fG.2.1 0 (by omega)) huv (fG.2.2 0 (by omega))) w_cd_Be_valueAt w_ini_Be w_ml_He_170 w_im_Be_valueAt w_se_Be_valueAt hb0 rfl hd_Be_valueAt rfl (Nat.le_of_ble_eq_true rfl) d_He_leap_52 (by decide) (by decide) (fun v σ3 hp => ?_)
  obtain ⟨⟨na, rfl, hna, k6⟩, k7⟩ := hp
  rw [Nat.sub_zero] at k6
  have hnL : nL L na 160 := by rcases hna with h | h <;> rw [h] <;> assumption
  refine q_gi hnL.1.1 pc_Nu 2 (by decide) w_fl_He_124 rfl (by rfl) d_He_leap_55 ?_
  refine q_topi (show _ = (hvv F d G (lev + (w : Int))).sign from k6.sgn) ?_
  clear hnL hna
  have g4 := ((g1.mv (k5 _ (by omega) (by omega) (by omega)) (k5 _ (by omega) (by omega) (by omega))).mv (k7 _ (by omega)) (k7 _ (by omega)))
  have kr3 : σ3 (a + 153 + 3 * i) = σ (a + 153 + 3 * i) := by rw [k7 _ (by omega), k5 _ (by omega) (by omega) (by omega)]; exact kr
  have fr3 : (∀ q, (q ≤ B ∨ (B + 7 ≤ q ∧ q ≤ B + 8) ∨ (B + 15 ≤ q ∧ q ≤ B + 24) ∨ B + 35 ≤ q) → (q < a + 153 + 3 * i ∨ a + 153 + 3 * i + 2 < q) → σ3 q = σ q) := fun q h1 h2 => by rw [k7 q (by omega), k5 q (by omega) (by omega) (by omega), k2 q (by omega) (by omega) (by omega)]
  have rf := sgn_b (hvv F d G (lev + (w : Int)))
  refine q_ist_8 d_He_leap_58 (by decide) rfl ?_
  refine q_iconst d_He_leap_60 rfl ?_
  refine q_ist_9 d_He_leap_61 (by decide) rfl ?_
  have cases3 : (hvv F d G (lev + (w : Int))).sign = 0 ∨ (hvv F d G (lev + (w : Int))).sign = ls ∨ (hvv F d G (lev + (w : Int))).sign = -ls := by omega
  rcases cases3 with q0 | q1 | q2
  · skip
    refine q_iload d_He_leap_63 rfl ?_
    refine q_if_eq (tgt := 109) (by omega) d_He_leap_65 (by decide) (fun c65 => ?_) (fun c65 => absurd c65 (by omega))
    refine q_iload d_He_leap_109 rfl ?_
    refine q_if_eq (tgt := 123) (by omega) d_He_leap_111 (by decide) (fun c111 => ?_) (fun c111 => absurd c111 (by omega))
    refine q_iload d_He_leap_123 rfl ?_
    refine q_if_eq (tgt := 143) (by omega) d_He_leap_125 (by decide) (fun c125 => ?_) (fun c125 => absurd c125 (by omega))
    exact tail σ3 _ 0 G g4 (by omega) ⟨g2, g3, Or.inl ⟨if_pos rfl, q0⟩⟩ kr3 fr3
  · have hne : G ≠ (z + 1) * 2 ^ w := fun h => by rw [h] at q1; omega
    have z1 : z * 2 ^ w ≤ G + 1 ∧ G + 1 ≤ (z + 1) * 2 ^ w := by omega
    have hZb : hid _ := hgb (G + 1) z1.1 z1.2
    have fZ : hid _ := hg.fit (pt_bd (Lm := LV (d 0)) hZb (by omega) (by omega)) hE
    have hZl : hid (((G + 1).natAbs : Int) < 2147483648 ^ 12) := lim_up (lim_ofI (up_bd hZb (show (32 + (lev + (w : Int))).toNat ≤ 340 by omega))) (by decide)
    have rs := sgn_b (hvv F d (G + 1) (lev + (w : Int)))
    refine q_iload d_He_leap_63 rfl ?_
    refine q_if_eq (tgt := 109) (by omega) d_He_leap_65 (by decide) (fun c65 => absurd c65 (by omega)) (fun c65 => ?_)
    refine q_aload d_He_leap_68 rfl ?_
    refine q_iload d_He_leap_70 rfl ?_
    refine q_aload_n d_He_leap_72 rfl ?_
    refine q_gi hro.1 pc_Ro 2 (by decide) w_fl_He_174 rfl (by rfl) d_He_leap_73 ?_
    refine q_topi (show _ = ls by rw [kr3]; exact hlsv) ?_
    refine q_icmp_ne (tgt := 83) (by omega) (by omega) d_He_leap_76 (by decide) (fun c76 => absurd c76 (by omega)) (fun c76 => ?_)
    refine q_iconst d_He_leap_79 rfl ?_
    refine q_goto (tgt := 84) d_He_leap_80 (by decide) ?_
    refine q_callV (As := [vi (1)]) (c_Nu_step l K hGu g4 (Or.inl rfl) (by decide) (lim_up hGl (by decide))) w_cd_Nu_step w_ini_Nu w_ml_He_199 w_im_Nu_step w_se_Nu_step hGu.1.1 rfl hd_Nu_step rfl (Nat.le_of_ble_eq_true rfl) d_He_leap_84 (by decide) (by decide) (fun v σ4 hp => ?_)
    obtain ⟨rfl, k8, k9⟩ := hp
    refine q_aload d_He_leap_87 rfl ?_
    refine q_aload d_He_leap_89 rfl ?_
    refine q_iload d_He_leap_91 rfl ?_
    refine q_callV (As := [.ref (B + 13), vi (lev + (w : Int))]) (c_Pt_place l K (u := 12) hpt hGu (by omega) k8 hZl (by omega) (by omega)) w_cd_Pt_place w_ini_Pt w_ml_He_195 w_im_Pt_place w_se_Pt_place hpt.1 rfl hd_Pt_place rfl (Nat.le_of_ble_eq_true rfl) d_He_leap_93 (by decide) (by decide) (fun v σ5 hp => ?_)
    obtain ⟨rfl, k10, k11, k12⟩ := hp
    refine q_aload_n d_He_leap_96 rfl ?_
    refine q_aload d_He_leap_97 rfl ?_
    refine q_aload d_He_leap_99 rfl ?_
    refine q_callV (As := [.ref (a + 24), .ref (B + 25)]) (c_Be_valueAt l K σ5 (x := B + 25) (n := d 0) (z := 0) (ex := ptE (lev + (w : Int))) (u := uM (d 0)) (v := vM (d 0)) (c := cM d 0) (X := ptX (G + 1) (lev + (w : Int))) (P := F 0) hbV hp0 hpt (Or.inl rfl) (by omega) (by omega) (by omega) (by rw [k12 _ (by omega) (by omega) (by omega), k9 _ (by omega) (by omega), k7 _ (by omega), k5 _ (by omega) (by omega) (by omega), k2 _ (by omega) (by omega) (by omega)]; exact c1.2.1.trans (by omega)) (fun j hj => (c1.2.2 j hj).mv (by rw [k12 _ (by omega) (by omega) (by omega), k9 _ (by omega) (by omega), k7 _ (by omega), k5 _ (by omega) (by omega) (by omega), k2 _ (by omega) (by omega) (by omega)]) (by rw [k12 _ (by omega) (by omega) (by omega), k9 _ (by omega) (by omega), k7 _ (by omega), k5 _ (by omega) (by omega) (by omega), k2 _ (by omega) (by omega) (by omega)])) k10 (k11.trans hEm) (by omega) fZ.1 (fun j hj => hg.cb 0 (by omega) j hj) (fZ.2.1 0 (by omega)) huv (fZ.2.2 0 (by omega))) w_cd_Be_valueAt w_ini_Be w_ml_He_170 w_im_Be_valueAt w_se_Be_valueAt hb0 rfl hd_Be_valueAt rfl (Nat.le_of_ble_eq_true rfl) d_He_leap_101 (by decide) (by decide) (fun v σ6 hp => ?_)
    obtain ⟨⟨na, rfl, hna, k13⟩, k14⟩ := hp
    rw [Nat.sub_zero] at k13
    have hnL : nL L na 160 := by rcases hna with h | h <;> rw [h] <;> assumption
    refine q_gi hnL.1.1 pc_Nu 2 (by decide) w_fl_He_124 rfl (by rfl) d_He_leap_104 ?_
    refine q_topi (show _ = (hvv F d (G + 1) (lev + (w : Int))).sign from k13.sgn) ?_
    clear hnL hna
    have g5 := ((k8.mv (k12 _ (by omega) (by omega) (by omega)) (k12 _ (by omega) (by omega) (by omega))).mv (k14 _ (by omega)) (k14 _ (by omega)))
    have kr6 : σ6 (a + 153 + 3 * i) = σ (a + 153 + 3 * i) := by rw [k14 _ (by omega), k12 _ (by omega) (by omega) (by omega), k9 _ (by omega) (by omega)]; exact kr3
    have fr6 : (∀ q, (q ≤ B ∨ (B + 7 ≤ q ∧ q ≤ B + 8) ∨ (B + 15 ≤ q ∧ q ≤ B + 24) ∨ B + 35 ≤ q) → (q < a + 153 + 3 * i ∨ a + 153 + 3 * i + 2 < q) → σ6 q = σ q) := fun q h1 h2 => by rw [k14 q (by omega), k12 q (by omega) (by omega) (by omega), k9 q (by omega) (by omega)]; exact fr3 q h1 h2
    refine q_ist_9 d_He_leap_107 (by decide) rfl ?_
    refine q_iload d_He_leap_109 rfl ?_
    refine q_if_eq (tgt := 123) (by omega) d_He_leap_111 (by decide) (fun c111 => absurd c111 (by omega)) (fun c111 => ?_)
    refine q_iload d_He_leap_114 rfl ?_
    refine q_iload d_He_leap_116 rfl ?_
    refine q_icmp_ne (tgt := 123) (by omega) (by omega) d_He_leap_118 (by decide) (fun cq => ?_) (fun cq => ?_)
    · refine q_iload d_He_leap_123 rfl ?_
      refine q_if_eq (tgt := 143) (by omega) d_He_leap_125 (by decide) (fun cz => ?_) (fun cz => ?_)
      · exact tail σ6 _ _ (G + 1) g5 (by omega) ⟨z1.1, z1.2, Or.inl ⟨if_pos cz, cz⟩⟩ kr6 fr6
      · refine q_iload d_He_leap_128 rfl ?_
        refine q_aload_n d_He_leap_130 rfl ?_
        refine q_gi hro.1 pc_Ro 2 (by decide) w_fl_He_174 rfl (by rfl) d_He_leap_131 ?_
        refine q_topi (show _ = ls by rw [kr6]; exact hlsv) ?_
        refine q_icmp_ne (tgt := 143) (by omega) (by omega) d_He_leap_134 (by decide) (fun c134 => absurd c134 (by omega)) (fun c134 => ?_)
        refine q_aload d_He_leap_137 rfl ?_
        refine q_iconst d_He_leap_139 rfl ?_
        refine q_callV (As := [vi (-1)]) (c_Nu_step l K hGu g5 (Or.inr rfl) (by decide) (lim_up hZl (by decide))) w_cd_Nu_step w_ini_Nu w_ml_He_199 w_im_Nu_step w_se_Nu_step hGu.1.1 rfl hd_Nu_step rfl (Nat.le_of_ble_eq_true rfl) d_He_leap_140 (by decide) (by decide) (fun v σ7 hp => ?_)
        obtain ⟨rfl, k15, k16⟩ := hp
        rw [show G + 1 + -1 = G by omega] at k15
        exact tail σ7 _ _ G k15 (by omega) ⟨g2, g3, Or.inr ⟨if_neg cz, q1, by omega⟩⟩ (by rw [k16 _ (by omega) (by omega)]; exact kr6) (fun q h1 h2 => by rw [k16 q (by omega) (by omega)]; exact fr6 q h1 h2)
    · refine q_iconst d_He_leap_121 rfl ?_
      exact q_zret rfl (by omega) (⟨Or.inl ⟨rfl, (((((k1.mv (k5 _ (by omega) (by omega) (by omega)) (k5 _ (by omega) (by omega) (by omega))).mv (k7 _ (by omega)) (k7 _ (by omega))).mv (k9 _ (by omega) (by omega)) (k9 _ (by omega) (by omega))).mv (k12 _ (by omega) (by omega) (by omega)) (k12 _ (by omega) (by omega) (by omega))).mv (k14 _ (by omega)) (k14 _ (by omega))), kr6⟩, fr6⟩) d_He_leap_122
  · have hne : G ≠ z * 2 ^ w := fun h => by rw [h] at q2; omega
    have z1 : z * 2 ^ w ≤ G + -1 ∧ G + -1 ≤ (z + 1) * 2 ^ w := by omega
    have hZb : hid _ := hgb (G + -1) z1.1 z1.2
    have fZ : hid _ := hg.fit (pt_bd (Lm := LV (d 0)) hZb (by omega) (by omega)) hE
    have hZl : hid (((G + -1).natAbs : Int) < 2147483648 ^ 12) := lim_up (lim_ofI (up_bd hZb (show (32 + (lev + (w : Int))).toNat ≤ 340 by omega))) (by decide)
    have rs := sgn_b (hvv F d (G + -1) (lev + (w : Int)))
    refine q_iload d_He_leap_63 rfl ?_
    refine q_if_eq (tgt := 109) (by omega) d_He_leap_65 (by decide) (fun c65 => absurd c65 (by omega)) (fun c65 => ?_)
    refine q_aload d_He_leap_68 rfl ?_
    refine q_iload d_He_leap_70 rfl ?_
    refine q_aload_n d_He_leap_72 rfl ?_
    refine q_gi hro.1 pc_Ro 2 (by decide) w_fl_He_174 rfl (by rfl) d_He_leap_73 ?_
    refine q_topi (show _ = ls by rw [kr3]; exact hlsv) ?_
    refine q_icmp_ne (tgt := 83) (by omega) (by omega) d_He_leap_76 (by decide) (fun c76 => ?_) (fun c76 => absurd c76 (by omega))
    refine q_iconst d_He_leap_83 rfl ?_
    refine q_callV (As := [vi (-1)]) (c_Nu_step l K hGu g4 (Or.inr rfl) (by decide) (lim_up hGl (by decide))) w_cd_Nu_step w_ini_Nu w_ml_He_199 w_im_Nu_step w_se_Nu_step hGu.1.1 rfl hd_Nu_step rfl (Nat.le_of_ble_eq_true rfl) d_He_leap_84 (by decide) (by decide) (fun v σ4 hp => ?_)
    obtain ⟨rfl, k8, k9⟩ := hp
    refine q_aload d_He_leap_87 rfl ?_
    refine q_aload d_He_leap_89 rfl ?_
    refine q_iload d_He_leap_91 rfl ?_
    refine q_callV (As := [.ref (B + 13), vi (lev + (w : Int))]) (c_Pt_place l K (u := 12) hpt hGu (by omega) k8 hZl (by omega) (by omega)) w_cd_Pt_place w_ini_Pt w_ml_He_195 w_im_Pt_place w_se_Pt_place hpt.1 rfl hd_Pt_place rfl (Nat.le_of_ble_eq_true rfl) d_He_leap_93 (by decide) (by decide) (fun v σ5 hp => ?_)
    obtain ⟨rfl, k10, k11, k12⟩ := hp
    refine q_aload_n d_He_leap_96 rfl ?_
    refine q_aload d_He_leap_97 rfl ?_
    refine q_aload d_He_leap_99 rfl ?_
    refine q_callV (As := [.ref (a + 24), .ref (B + 25)]) (c_Be_valueAt l K σ5 (x := B + 25) (n := d 0) (z := 0) (ex := ptE (lev + (w : Int))) (u := uM (d 0)) (v := vM (d 0)) (c := cM d 0) (X := ptX (G + -1) (lev + (w : Int))) (P := F 0) hbV hp0 hpt (Or.inl rfl) (by omega) (by omega) (by omega) (by rw [k12 _ (by omega) (by omega) (by omega), k9 _ (by omega) (by omega), k7 _ (by omega), k5 _ (by omega) (by omega) (by omega), k2 _ (by omega) (by omega) (by omega)]; exact c1.2.1.trans (by omega)) (fun j hj => (c1.2.2 j hj).mv (by rw [k12 _ (by omega) (by omega) (by omega), k9 _ (by omega) (by omega), k7 _ (by omega), k5 _ (by omega) (by omega) (by omega), k2 _ (by omega) (by omega) (by omega)]) (by rw [k12 _ (by omega) (by omega) (by omega), k9 _ (by omega) (by omega), k7 _ (by omega), k5 _ (by omega) (by omega) (by omega), k2 _ (by omega) (by omega) (by omega)])) k10 (k11.trans hEm) (by omega) fZ.1 (fun j hj => hg.cb 0 (by omega) j hj) (fZ.2.1 0 (by omega)) huv (fZ.2.2 0 (by omega))) w_cd_Be_valueAt w_ini_Be w_ml_He_170 w_im_Be_valueAt w_se_Be_valueAt hb0 rfl hd_Be_valueAt rfl (Nat.le_of_ble_eq_true rfl) d_He_leap_101 (by decide) (by decide) (fun v σ6 hp => ?_)
    obtain ⟨⟨na, rfl, hna, k13⟩, k14⟩ := hp
    rw [Nat.sub_zero] at k13
    have hnL : nL L na 160 := by rcases hna with h | h <;> rw [h] <;> assumption
    refine q_gi hnL.1.1 pc_Nu 2 (by decide) w_fl_He_124 rfl (by rfl) d_He_leap_104 ?_
    refine q_topi (show _ = (hvv F d (G + -1) (lev + (w : Int))).sign from k13.sgn) ?_
    clear hnL hna
    have g5 := ((k8.mv (k12 _ (by omega) (by omega) (by omega)) (k12 _ (by omega) (by omega) (by omega))).mv (k14 _ (by omega)) (k14 _ (by omega)))
    have kr6 : σ6 (a + 153 + 3 * i) = σ (a + 153 + 3 * i) := by rw [k14 _ (by omega), k12 _ (by omega) (by omega) (by omega), k9 _ (by omega) (by omega)]; exact kr3
    have fr6 : (∀ q, (q ≤ B ∨ (B + 7 ≤ q ∧ q ≤ B + 8) ∨ (B + 15 ≤ q ∧ q ≤ B + 24) ∨ B + 35 ≤ q) → (q < a + 153 + 3 * i ∨ a + 153 + 3 * i + 2 < q) → σ6 q = σ q) := fun q h1 h2 => by rw [k14 q (by omega), k12 q (by omega) (by omega) (by omega), k9 q (by omega) (by omega)]; exact fr3 q h1 h2
    refine q_ist_9 d_He_leap_107 (by decide) rfl ?_
    refine q_iload d_He_leap_109 rfl ?_
    refine q_if_eq (tgt := 123) (by omega) d_He_leap_111 (by decide) (fun c111 => absurd c111 (by omega)) (fun c111 => ?_)
    refine q_iload d_He_leap_114 rfl ?_
    refine q_iload d_He_leap_116 rfl ?_
    refine q_icmp_ne (tgt := 123) (by omega) (by omega) d_He_leap_118 (by decide) (fun cq => ?_) (fun cq => ?_)
    · refine q_iload d_He_leap_123 rfl ?_
      refine q_if_eq (tgt := 143) (by omega) d_He_leap_125 (by decide) (fun cz => ?_) (fun cz => ?_)
      · exact tail σ6 _ _ (G + -1) g5 (by omega) ⟨z1.1, z1.2, Or.inl ⟨if_pos cz, cz⟩⟩ kr6 fr6
      · refine q_iload d_He_leap_128 rfl ?_
        refine q_aload_n d_He_leap_130 rfl ?_
        refine q_gi hro.1 pc_Ro 2 (by decide) w_fl_He_174 rfl (by rfl) d_He_leap_131 ?_
        refine q_topi (show _ = ls by rw [kr6]; exact hlsv) ?_
        refine q_icmp_ne (tgt := 143) (by omega) (by omega) d_He_leap_134 (by decide) (fun c134 => ?_) (fun c134 => absurd c134 (by omega))
        exact tail σ6 _ _ (G + -1) g5 (by omega) ⟨z1.1, z1.2, Or.inr ⟨if_neg cz, by omega, by rw [show G + -1 + 1 = G by omega]; exact q2⟩⟩ kr6 fr6
    · refine q_iconst d_He_leap_121 rfl ?_
      exact q_zret rfl (by omega) (⟨Or.inl ⟨rfl, (((((k1.mv (k5 _ (by omega) (by omega) (by omega)) (k5 _ (by omega) (by omega) (by omega))).mv (k7 _ (by omega)) (k7 _ (by omega))).mv (k9 _ (by omega) (by omega)) (k9 _ (by omega) (by omega))).mv (k12 _ (by omega) (by omega) (by omega)) (k12 _ (by omega) (by omega) (by omega))).mv (k14 _ (by omega)) (k14 _ (by omega))), kr6⟩, fr6⟩) d_He_leap_122
