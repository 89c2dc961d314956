/-! HELD: isolate -/
/-- the point z over 2 to the lev, as it is placed -/
def ptX (z lev : Int) : Int := if 0 ≤ lev then z else z * 2 ^ (-lev).toNat
def ptE (lev : Int) : Nat := (max 0 lev).toNat
/-- the sign of link k there -/
def lks (F : Nat → Nat → Int) (d : Nat → Nat) (z lev : Int) (k : Nat) : Int := (hv (F k) (d k) (ptX z lev) (ptE lev) (d k + 1)).sign
/-- how many roots lie not above it, and below it -/
def upt (F : Nat → Nat → Int) (d : Nat → Nat) (n : Nat) (st z lev : Int) : Int := st - (vr (lks F d z lev) n).1
def blw (F : Nat → Nat → Int) (d : Nat → Nat) (n : Nat) (st z lev : Int) : Int := if lks F d z lev 0 = 0 then upt F d n st z lev - 1 else upt F d n st z lev
/-- the cell after t halvings, and the counts at its ends -/
def iso (F : Nat → Nat → Int) (d : Nat → Nat) (n : Nat) (st ct re i : Int) : Nat → Int × Int × Int
  | 0 => if i < blw F d n st 0 0 then (-1, 0, upt F d n st 0 0) else (0, blw F d n st 0 0, ct)
  | t + 1 => if i < blw F d n st ((iso F d n st ct re i t).1 * 2 ^ 1 + 1) (-re + t + 1) then ((iso F d n st ct re i t).1 * 2 ^ 1 + 0, (iso F d n st ct re i t).2.1, upt F d n st ((iso F d n st ct re i t).1 * 2 ^ 1 + 1) (-re + t + 1)) else ((iso F d n st ct re i t).1 * 2 ^ 1 + 1, blw F d n st ((iso F d n st ct re i t).1 * 2 ^ 1 + 1) (-re + t + 1), (iso F d n st ct re i t).2.2)
/-- all links' values there fit -/
def fitp (F : Nat → Nat → Int) (d : Nat → Nat) (n u v : Nat) (c : Nat → Nat) (z lev : Int) : Prop := ((ptX z lev).natAbs : Int) < 2147483648 ^ v ∧ (∀ k, k < n → ∀ i, i ≤ d k → ((hv (F k) (d k) (ptX z lev) (ptE lev) i).natAbs : Int) < 2147483648 ^ u) ∧ (∀ k, k < n → c k + ptE lev * d k / 31 + 1 ≤ 159) ∧ ptE lev < 100000
theorem ptE_m (lev : Int) : max 0 lev = ((ptE lev : Nat) : Int) := by unfold ptE; omega
theorem upt_r {F : Nat → Nat → Int} {d : Nat → Nat} {n : Nat} {st z lev : Int} (h : 0 ≤ st ∧ st ≤ 20) (hn : n ≤ 10) : -100 ≤ upt F d n st z lev ∧ upt F d n st z lev ≤ 100 := by
  have := vr_r (s := lks F d z lev) (fun k => sgn_b _) n
  unfold upt; omega
theorem nV.mv' {σ : q_S} {r w k : Nat} {x z : Int} (h : nV σ (r + 1) w x) (hk : r ≠ r + 1) : nV (q_up σ r k z) (r + 1) w x := h.mv (q_up_a _ _ (by omega)) (q_up_a _ _ (by omega))
set_option maxHeartbeats 4000000 in
set_option maxRecDepth 100000 in
theorem c_He_isolate (l : Launch) (K : pw_K) {L : q_L} {σ : q_S} {a B i n u v w T0 : Nat} {c : Nat → Nat} {st ct re : Int} {F : Nat → Nat → Int} {d : Nat → Nat} (hL : heL L a) (hbL : beL L B) (hdj : a + 177 ≤ B ∨ B + 91 ≤ a) (hi : i < 8) (hfd : σ (a + 153 + 3 * i) 3 = 0) (hst : σ a 7 = st) (hst2 : 0 ≤ st ∧ st ≤ 20) (hct : σ a 5 = ct) (hct2 : 0 ≤ ct ∧ ct ≤ 20) (hre : σ a 8 = re) (hre2 : 0 ≤ re ∧ re ≤ 32) (hn1 : 1 ≤ n) (hn : σ (a + 22) 1 = n) (hn10 : n ≤ 10) (hdN : ∀ k, k < n → d k < chN 9 k) (hdeg : ∀ k, k < n → σ (a + 22 + chO 9 k) 1 = (d k : Int)) (hP : ∀ k, k < n → ∀ i, i ≤ d k → nV σ (a + 22 + chO 9 k + 2 + 2 * i) 48 (F k i)) (hFb : ∀ k, k < n → ∀ j, j ≤ d k → ((F k j).natAbs : Int) < 2147483648 ^ c k) (hf0 : fitp F d n u v c 0 0) (hfm : ∀ t : Nat, t < T0 → fitp F d n u v c ((iso F d n st ct re (i : Int) t).1 * 2 ^ 1 + 1) (-re + t + 1)) (hfl : ∀ t : Nat, t ≤ T0 → fitp F d n u v c (iso F d n st ct re (i : Int) t).1 (-re + t)) (hbA : ∀ t : Nat, t ≤ T0 → (((iso F d n st ct re (i : Int) t).1).natAbs : Int) < 2147483648 ^ w) (hw : w ≤ 43) (hT0 : (iso F d n st ct re (i : Int) T0).2.2 - (iso F d n st ct re (i : Int) T0).2.1 ≤ 1) (hT2 : T0 < 1999) (hlh : ∀ t : Nat, t ≤ T0 → (-1000 ≤ (iso F d n st ct re (i : Int) t).2.1 ∧ (iso F d n st ct re (i : Int) t).2.1 ≤ 1000) ∧ -1000 ≤ (iso F d n st ct re (i : Int) t).2.2 ∧ (iso F d n st ct re (i : Int) t).2.2 ≤ 1000) (huv : u + v ≤ 159) : q_C l K L y_He_isolate b_He_isolate 10 none 6 [.ref a, vi i, .ref B] σ (fun r σ' => r = none ∧ ∃ T, T ≤ T0 ∧ (iso F d n st ct re (i : Int) T).2.2 - (iso F d n st ct re (i : Int) T).2.1 ≤ 1 ∧ nV σ' (a + 153 + 3 * i + 1) 48 (iso F d n st ct re (i : Int) T).1 ∧ σ' (a + 153 + 3 * i) 1 = -re + T ∧ σ' (a + 153 + 3 * i) 2 = lks F d (iso F d n st ct re (i : Int) T).1 (-re + T) 0 ∧ σ' (a + 153 + 3 * i) 3 = 1 ∧ σ' (a + 153 + 3 * i) 4 = (if lks F d (iso F d n st ct re (i : Int) T).1 (-re + T) 0 = 0 then 1 else 0) ∧ σ' (a + 22) 1 = n ∧ (∀ q, (q ≤ B ∨ (B + 7 ≤ q ∧ q ≤ B + 24) ∨ B + 28 ≤ q) → q ≠ a + 22 → (q < a + 153 + 3 * i ∨ a + 153 + 3 * i + 2 < q) → σ' q = σ q)) := by
  obtain ⟨hH0, -, -, hch, ⟨rg, hrg, hrg2⟩, hroA⟩ := hL
  have hro := hroA i hi
  have hchA := hch
  obtain ⟨hc0, ⟨g, hg1, hg2⟩, hpl⟩ := hchA
  have hb0 := hbL.1
  have hbV := hbL.vb
  have hpt : ptL L (B + 25) := hbL.2.2.1
  have h1L : nL L (B + 1) 160 := hbL.2.1 0 (by decide)
  have h3L : nL L (B + 3) 160 := hbL.2.1 1 (by decide)
  have hc90 : chO 9 0 = 2 := rfl
  have hn90 : chN 9 0 = 9 := rfl
  have hd09 := hdN 0 (by omega)
  refine q_start [some (.ref a), some (vi i), some (.ref B), none, none, none, none, none, none, none] (by decide) (Nat.le_of_ble_eq_true rfl) (fun q h => h) ?_
  have fin228 : ∀ (t : Nat) (σ1 : q_S), t ≤ T0 → (iso F d n st ct re (i : Int) t).2.2 - (iso F d n st ct re (i : Int) t).2.1 ≤ 1 → nV σ1 (a + 153 + 3 * i + 1) 48 (iso F d n st ct re (i : Int) t).1 → σ1 (a + 153 + 3 * i) 1 = (-re + t) → σ1 (a + 22) 1 = n → (∀ q, (q ≤ B ∨ (B + 7 ≤ q ∧ q ≤ B + 24) ∨ B + 28 ≤ q) → q ≠ a + 22 → (q < a + 153 + 3 * i ∨ a + 153 + 3 * i + 2 < q) → σ1 q = σ q) → ∀ s : Int, s = t → q_T l K L R_He b_He_isolate 10 none 6 (fun r σ' => r = none ∧ ∃ T, T ≤ T0 ∧ (iso F d n st ct re (i : Int) T).2.2 - (iso F d n st ct re (i : Int) T).2.1 ≤ 1 ∧ nV σ' (a + 153 + 3 * i + 1) 48 (iso F d n st ct re (i : Int) T).1 ∧ σ' (a + 153 + 3 * i) 1 = -re + T ∧ σ' (a + 153 + 3 * i) 2 = lks F d (iso F d n st ct re (i : Int) T).1 (-re + T) 0 ∧ σ' (a + 153 + 3 * i) 3 = 1 ∧ σ' (a + 153 + 3 * i) 4 = (if lks F d (iso F d n st ct re (i : Int) T).1 (-re + T) 0 = 0 then 1 else 0) ∧ σ' (a + 22) 1 = n ∧ (∀ q, (q ≤ B ∨ (B + 7 ≤ q ∧ q ≤ B + 24) ∨ B + 28 ≤ q) → q ≠ a + 22 → (q < a + 153 + 3 * i ∨ a + 153 + 3 * i + 2 < q) → σ' q = σ q)) 228 [some (.ref a), some (vi i), some (.ref B), some (.ref (a + 153 + 3 * i)), some (.ref (B + 25)), none, none, some (vi (iso F d n st ct re (i : Int) t).2.1), some (vi (iso F d n st ct re (i : Int) t).2.2), some (vi s)] [] σ1 := by
    intro t σ1 ht0 hle f1 f2 f3 f4 s hs
    refine q_aload_n d_He_isolate_228 rfl ?_
    refine q_aload d_He_isolate_229 rfl ?_
    refine q_callV (As := [.ref (B + 25)]) (c_Ro_toLow l K (u := w) hro hpt (by omega) f1 f2 (hbA t (by omega)) (by omega) (by omega)) w_cd_Ro_toLow w_ini_Ro w_ml_He_167 w_im_Ro_toLow w_se_Ro_toLow hro.1 rfl hd_Ro_toLow rfl (Nat.le_of_ble_eq_true rfl) d_He_isolate_231 (by decide) (by decide) (fun v σ2 hp => ?_)
    obtain ⟨rfl, k1, k2, k3⟩ := hp
    refine q_aload_n d_He_isolate_234 rfl ?_
    refine q_aload_n d_He_isolate_235 rfl ?_
    refine q_aload_n d_He_isolate_236 rfl ?_
    refine q_gr hH0 pc_He 2 (by decide) w_fl_He_29 rfl (by rfl) d_He_isolate_237 ?_
    refine q_gr hc0 pc_Ch 0 (by decide) w_fl_He_57 rfl (by rfl) d_He_isolate_240 ?_
    refine q_iconst d_He_isolate_243 rfl ?_
    refine q_aal (0) 5 (b := a + 22 + chO 9 0) rfl hg1 (by omega) (by omega) (by omega) (hg2 0 (by decide)) d_He_isolate_244 ?_
    refine q_aload d_He_isolate_245 rfl ?_
    refine q_callV (As := [.ref (a + 22 + chO 9 0), .ref (B + 25)]) (c_Be_valueAt l K σ2 (x := B + 25) (n := d 0) (z := 0) (ex := ptE (-re + t)) (u := u) (v := v) (c := c 0) (X := ptX (iso F d n st ct re (i : Int) t).1 (-re + t)) (P := F 0) hbV (hpl 0 (by decide)) hpt (Or.inl rfl) (hdN 0 (by omega)) (by omega) (by omega) (by rw [k3 _ (by omega) (by omega) (by omega), f4 _ (by omega) (by omega) (by omega), hdeg 0 (by omega)]; omega) (fun j hj => (hP 0 (by omega) j hj).mv (by rw [k3 _ (by omega) (by omega) (by omega)]; exact f4 _ (by omega) (by omega) (by omega)) (by rw [k3 _ (by omega) (by omega) (by omega)]; exact f4 _ (by omega) (by omega) (by omega))) k1 (by rw [k2]; exact ptE_m _) (hfl t (by omega)).2.2.2 (hfl t (by omega)).1 (hFb 0 (by omega)) ((hfl t (by omega)).2.1 0 (by omega)) huv ((hfl t (by omega)).2.2.1 0 (by omega))) w_cd_Be_valueAt w_ini_Be w_ml_He_170 w_im_Be_valueAt w_se_Be_valueAt hb0 rfl hd_Be_valueAt rfl (Nat.le_of_ble_eq_true rfl) d_He_isolate_247 (by decide) (by decide) (fun v σ3 hp => ?_)
    obtain ⟨⟨na, rfl, hna, k4⟩, k5⟩ := hp
    rw [Nat.sub_zero] at k4
    have hnL : nL L na 160 := by rcases hna with h | h <;> rw [h] <;> assumption
    refine q_gi hnL.1.1 pc_Nu 2 (by decide) w_fl_He_124 rfl (by rfl) d_He_isolate_250 ?_
    refine q_topi (show _ = lks F d (iso F d n st ct re (i : Int) t).1 (-re + t) 0 from k4.sgn) ?_
    have r9 : -1 ≤ lks F d (iso F d n st ct re (i : Int) t).1 (-re + t) 0 ∧ lks F d (iso F d n st ct re (i : Int) t).1 (-re + t) 0 ≤ 1 := sgn_b _
    refine q_pi hro.1 pc_Ro 2 (by decide) w_fl_He_174 rfl rfl rfl rfl (by rfl) d_He_isolate_253 ?_
    refine q_aload_n d_He_isolate_256 rfl ?_
    refine q_aload_n d_He_isolate_257 rfl ?_
    refine q_gi hro.1 pc_Ro 2 (by decide) w_fl_He_174 rfl (by rfl) d_He_isolate_258 ?_
    refine q_topi (q_up_self _ _ _ _) ?_
    refine q_jn1 (V := if lks F d (iso F d n st ct re (i : Int) t).1 (-re + t) 0 = 0 then (1 : Int) else 0) 269 (fun jn => ?_) ?_
    · refine q_if_ne (tgt := 268) (by omega) d_He_isolate_261 (by decide) (fun cl => ?_) (fun cl => ?_)
      · refine q_iconst d_He_isolate_268 rfl ?_
        exact jn _ ((if_neg cl).symm)
      · refine q_iconst d_He_isolate_264 rfl ?_
        refine q_goto (tgt := 269) d_He_isolate_265 (by decide) ?_
        exact jn _ ((if_pos cl).symm)
    · refine q_pi hro.1 pc_Ro 4 (by decide) w_fl_He_177 rfl rfl (by split <;> rfl) (by split <;> rfl) (by rfl) d_He_isolate_269 ?_
      refine q_aload_n d_He_isolate_272 rfl ?_
      refine q_iconst d_He_isolate_273 rfl ?_
      refine q_pi hro.1 pc_Ro 3 (by decide) w_fl_He_115 rfl rfl rfl rfl (by rfl) d_He_isolate_274 ?_
      exact q_vret rfl (⟨rfl, t, by omega, hle, ((f1.mv (k3 _ (by omega) (by omega) (by omega)) (k3 _ (by omega) (by omega) (by omega))).mv (k5 _ (by omega)) (k5 _ (by omega))).mv (by rw [q_up_a _ _ (by omega), q_up_a _ _ (by omega), q_up_a _ _ (by omega)]) (by rw [q_up_a _ _ (by omega), q_up_a _ _ (by omega), q_up_a _ _ (by omega)]), by rw [q_up_k _ _ (by decide), q_up_k _ _ (by decide), q_up_k _ _ (by decide), k5 _ (by omega), k3 _ (by omega) (by omega) (by omega)]; exact f2, by rw [q_up_k _ _ (by decide), q_up_k _ _ (by decide), q_up_self], by rw [q_up_self], by rw [q_up_k _ _ (by decide), q_up_self], by rw [q_up_a _ _ (by omega), q_up_a _ _ (by omega), q_up_a _ _ (by omega), k5 _ (by omega), k3 _ (by omega) (by omega) (by omega)]; exact f3, fun q h1 h2 h3 => by rw [q_up_a _ _ (by omega), q_up_a _ _ (by omega), q_up_a _ _ (by omega), k5 q (by omega), k3 q (by omega) (by omega) (by omega)]; exact f4 q h1 h2 h3⟩) d_He_isolate_277
  have loop : ∀ (r t : Nat), t + r = T0 → ∀ (σ1 : q_S), nV σ1 (a + 153 + 3 * i + 1) 48 (iso F d n st ct re (i : Int) t).1 → σ1 (a + 153 + 3 * i) 1 = (-re + t) → σ1 (a + 22) 1 = n → (∀ q, (q ≤ B ∨ (B + 7 ≤ q ∧ q ≤ B + 24) ∨ B + 28 ≤ q) → q ≠ a + 22 → (q < a + 153 + 3 * i ∨ a + 153 + 3 * i + 2 < q) → σ1 q = σ q) → (∀ u : Nat, u < t → ¬ (iso F d n st ct re (i : Int) u).2.2 - (iso F d n st ct re (i : Int) u).2.1 ≤ 1) → ∀ s : Int, s = t → q_T l K L R_He b_He_isolate 10 none 6 (fun r σ' => r = none ∧ ∃ T, T ≤ T0 ∧ (iso F d n st ct re (i : Int) T).2.2 - (iso F d n st ct re (i : Int) T).2.1 ≤ 1 ∧ nV σ' (a + 153 + 3 * i + 1) 48 (iso F d n st ct re (i : Int) T).1 ∧ σ' (a + 153 + 3 * i) 1 = -re + T ∧ σ' (a + 153 + 3 * i) 2 = lks F d (iso F d n st ct re (i : Int) T).1 (-re + T) 0 ∧ σ' (a + 153 + 3 * i) 3 = 1 ∧ σ' (a + 153 + 3 * i) 4 = (if lks F d (iso F d n st ct re (i : Int) T).1 (-re + T) 0 = 0 then 1 else 0) ∧ σ' (a + 22) 1 = n ∧ (∀ q, (q ≤ B ∨ (B + 7 ≤ q ∧ q ≤ B + 24) ∨ B + 28 ≤ q) → q ≠ a + 22 → (q < a + 153 + 3 * i ∨ a + 153 + 3 * i + 2 < q) → σ' q = σ q)) 129 [some (.ref a), some (vi i), some (.ref B), some (.ref (a + 153 + 3 * i)), some (.ref (B + 25)), none, none, some (vi (iso F d n st ct re (i : Int) t).2.1), some (vi (iso F d n st ct re (i : Int) t).2.2), some (vi s)] [] σ1 := by
    intro r
    induction r with
    | zero =>
      intro t ht σ1 f1 f2 f3 f4 f5 s hs
      have hq := hlh t (by omega)
      refine q_iload d_He_isolate_129 rfl ?_
      refine q_sipush d_He_isolate_131 (by decide) ?_
      refine q_icmp_ge (tgt := 228) (by omega) (by omega) d_He_isolate_134 (by decide) (fun c134 => absurd c134 (by omega)) (fun c134 => ?_)
      refine q_iload d_He_isolate_137 rfl ?_
      refine q_iload d_He_isolate_139 rfl ?_
      refine q_isub d_He_isolate_141 ?_
      refine q_iconst d_He_isolate_142 rfl ?_
      refine q_icmp_le (tgt := 228) (by omega) (by omega) d_He_isolate_143 (by decide) (fun cw => ?_) (fun cw => absurd cw (not_not_intro (by have h9 := hT0; rw [show T0 = t by omega] at h9; exact h9)))
      exact fin228 t σ1 (by omega) (by have h9 := hT0; rw [show T0 = t by omega] at h9; exact h9) f1 f2 f3 f4 _ hs
    | succ r ih =>
      intro t ht σ1 f1 f2 f3 f4 f5 s hs
      have hq := hlh t (by omega)
      refine q_iload d_He_isolate_129 rfl ?_
      refine q_sipush d_He_isolate_131 (by decide) ?_
      refine q_icmp_ge (tgt := 228) (by omega) (by omega) d_He_isolate_134 (by decide) (fun c134 => absurd c134 (by omega)) (fun c134 => ?_)
      refine q_iload d_He_isolate_137 rfl ?_
      refine q_iload d_He_isolate_139 rfl ?_
      refine q_isub d_He_isolate_141 ?_
      refine q_iconst d_He_isolate_142 rfl ?_
      refine q_icmp_le (tgt := 228) (by omega) (by omega) d_He_isolate_143 (by decide) (fun cw => ?_) (fun cw => ?_)
      · exact fin228 t σ1 (by omega) cw f1 f2 f3 f4 _ hs
      · have ht0 : t < T0 := by
          rcases Nat.lt_or_ge t T0 with h9 | h9
          · exact h9
          · exfalso; obtain rfl : t = T0 := by omega
            exact cw hT0
        refine q_aload_n d_He_isolate_146 rfl ?_
        refine q_aload d_He_isolate_147 rfl ?_
        refine q_callV (As := [.ref (B + 25)]) (c_Ro_toMiddle l K (u := w) hro hpt (by omega) f1 f2 (hbA t (by omega)) (by omega) (by omega)) w_cd_Ro_toMiddle w_ini_Ro w_ml_He_159 w_im_Ro_toMiddle w_se_Ro_toMiddle hro.1 rfl hd_Ro_toMiddle rfl (Nat.le_of_ble_eq_true rfl) d_He_isolate_149 (by decide) (by decide) (fun v σ2 hp => ?_)
        obtain ⟨rfl, k1, ⟨k2, k3⟩, k4⟩ := hp
        have fr1 : ∀ q, (q ≤ B ∨ (B + 7 ≤ q ∧ q ≤ B + 24) ∨ B + 28 ≤ q) → q ≠ a + 22 → (q < a + 153 + 3 * i ∨ a + 153 + 3 * i + 2 < q) → σ2 q = σ q := (fun q h1 h2 h3 => (k4 q (by omega) (by omega) (by omega) (by omega) (by omega)).trans (f4 q h1 h2 h3))
        have hfit := hfm t ht0
        refine q_aload_n d_He_isolate_152 rfl ?_
        refine q_gi hH0 pc_He 7 (by decide) w_fl_He_102 rfl (by rfl) d_He_isolate_153 ?_
        refine q_topi (show _ = st by rw [fr1 _ (by omega) (by omega) (by omega)]; exact hst) ?_
        refine q_aload_n d_He_isolate_156 rfl ?_
        refine q_gr hH0 pc_He 2 (by decide) w_fl_He_29 rfl (by rfl) d_He_isolate_157 ?_
        refine q_aload d_He_isolate_160 rfl ?_
        refine q_aload_n d_He_isolate_162 rfl ?_
        refine q_callV (As := [.ref (B + 25), .ref B]) (c_Ch_changesAt l K (ch := a + 22) (h := 9) (x := B + 25) (n := n) (ex := ptE (-re + t + 1)) (u := u) (v := v) (c := c) (X := ptX ((iso F d n st ct re (i : Int) t).1 * 2 ^ 1 + 1) (-re + t + 1)) (F := F) (d := d) hn1 hch hbL hpt (by omega) (by omega) (by omega) (by rw [k4 _ (by omega) (by omega) (by omega) (by omega) (by omega)]; exact f3) hn10 hdN (fun k hk => by have p1 := chO_end (h := 9) (k := k) (by omega); have p2 := chO_ge (h := 9) (k := k); have p3 := hdN k hk; rw [fr1 _ (by omega) (by omega) (by omega)]; exact hdeg k hk) (fun k hk i hi => by have p1 := chO_end (h := 9) (k := k) (by omega); have p2 := chO_ge (h := 9) (k := k); have p3 := hdN k hk; exact (hP k hk i hi).mv (fr1 _ (by omega) (by omega) (by omega)) (fr1 _ (by omega) (by omega) (by omega))) k2 (k3.trans (ptE_m _)) hfit.2.2.2 hfit.1 hFb hfit.2.1 huv hfit.2.2.1) w_cd_Ch_changesAt w_ini_Ch w_ml_He_133 w_im_Ch_changesAt w_se_Ch_changesAt hc0 rfl hd_Ch_changesAt rfl (Nat.le_of_ble_eq_true rfl) d_He_isolate_163 (by decide) (by decide) (fun v σ3 hp => ?_)
        obtain ⟨rfl, k5, k6, k7⟩ := hp
        have k6' : σ3 (a + 22) 2 = lks F d ((iso F d n st ct re (i : Int) t).1 * 2 ^ 1 + 1) (-re + t + 1) 0 := k6
        have r0 : -100 ≤ upt F d n st ((iso F d n st ct re (i : Int) t).1 * 2 ^ 1 + 1) (-re + t + 1) ∧ upt F d n st ((iso F d n st ct re (i : Int) t).1 * 2 ^ 1 + 1) (-re + t + 1) ≤ 100 := upt_r hst2 hn10
        have r1 : -1 ≤ lks F d ((iso F d n st ct re (i : Int) t).1 * 2 ^ 1 + 1) (-re + t + 1) 0 ∧ lks F d ((iso F d n st ct re (i : Int) t).1 * 2 ^ 1 + 1) (-re + t + 1) 0 ≤ 1 := sgn_b _
        have r2 : -101 ≤ blw F d n st ((iso F d n st ct re (i : Int) t).1 * 2 ^ 1 + 1) (-re + t + 1) ∧ blw F d n st ((iso F d n st ct re (i : Int) t).1 * 2 ^ 1 + 1) (-re + t + 1) ≤ 100 := by unfold blw; split <;> omega
        refine q_isub d_He_isolate_166 ?_
        refine q_topi (show _ = upt F d n st ((iso F d n st ct re (i : Int) t).1 * 2 ^ 1 + 1) (-re + t + 1) from rfl) ?_
        refine q_ist_5 d_He_isolate_167 (by decide) rfl ?_
        refine q_aload_n d_He_isolate_169 rfl ?_
        refine q_gr hH0 pc_He 2 (by decide) w_fl_He_29 rfl (by rfl) d_He_isolate_170 ?_
        refine q_gi hc0 pc_Ch 2 (by decide) w_fl_He_137 rfl (by rfl) d_He_isolate_173 ?_
        refine q_topi k6' ?_
        refine q_jn1 (V := blw F d n st ((iso F d n st ct re (i : Int) t).1 * 2 ^ 1 + 1) (-re + t + 1)) 188 (fun jn => ?_) ?_
        · refine q_if_ne (tgt := 186) (by omega) d_He_isolate_176 (by decide) (fun cz => ?_) (fun cz => ?_)
          · refine q_iload d_He_isolate_186 rfl ?_
            exact jn _ ((if_neg cz).symm)
          · refine q_iload d_He_isolate_179 rfl ?_
            refine q_iconst d_He_isolate_181 rfl ?_
            refine q_isub d_He_isolate_182 ?_
            refine q_goto (tgt := 188) d_He_isolate_183 (by decide) ?_
            exact jn _ ((if_pos cz).symm)
        · refine q_ist_6 d_He_isolate_188 (by decide) rfl ?_
          refine q_aload_n d_He_isolate_190 rfl ?_
          refine q_iload_n d_He_isolate_191 rfl ?_
          refine q_iload d_He_isolate_192 rfl ?_
          refine q_jn2 (V := if (i : Int) < blw F d n st ((iso F d n st ct re (i : Int) t).1 * 2 ^ 1 + 1) (-re + t + 1) then (0 : Int) else 1) 202 (fun jn => ?_) ?_
          · refine q_icmp_lt (tgt := 201) (by omega) (by omega) d_He_isolate_194 (by decide) (fun cb => ?_) (fun cb => ?_)
            · refine q_iconst d_He_isolate_201 rfl ?_
              exact jn _ ((if_pos cb).symm)
            · refine q_iconst d_He_isolate_197 rfl ?_
              refine q_goto (tgt := 202) d_He_isolate_198 (by decide) ?_
              exact jn _ ((if_neg cb).symm)
          · refine q_callV (As := [vi (if (i : Int) < blw F d n st ((iso F d n st ct re (i : Int) t).1 * 2 ^ 1 + 1) (-re + t + 1) then (0 : Int) else 1)]) (c_Ro_halve l K (u := w) (lev := -re + t) hro (k1.mv (k7 _ (by omega) (by omega)) (k7 _ (by omega) (by omega))) (by rw [k7 _ (by omega) (by omega), k4 _ (by omega) (by omega) (by omega) (by omega) (by omega)]; exact f2) (by split <;> omega) (hbA t (by omega)) (by omega)) w_cd_Ro_halve w_ini_Ro w_ml_He_163 w_im_Ro_halve w_se_Ro_halve hro.1 rfl hd_Ro_halve rfl (Nat.le_of_ble_eq_true rfl) d_He_isolate_202 (by decide) (by decide) (fun v σ4 hp => ?_)
            obtain ⟨rfl, k8, k9, k10, k11⟩ := hp
            refine q_iload_n d_He_isolate_205 rfl ?_
            refine q_iload d_He_isolate_206 rfl ?_
            refine q_icmp_ge (tgt := 218) (by omega) (by omega) d_He_isolate_208 (by decide) (fun cb2 => ?_) (fun cb2 => ?_)
            · refine q_iload d_He_isolate_218 rfl ?_
              refine q_ist_7 d_He_isolate_220 (by decide) rfl ?_
              refine q_iinc_9 d_He_isolate_222 (by decide) rfl ?_
              refine q_goto (tgt := 129) d_He_isolate_225 (by decide) ?_
              refine q_drop_6 ?_
              refine q_drop_5 ?_
              have hs1 : iso F d n st ct re (i : Int) (t + 1) = ((iso F d n st ct re (i : Int) t).1 * 2 ^ 1 + 1, blw F d n st ((iso F d n st ct re (i : Int) t).1 * 2 ^ 1 + 1) (-re + t + 1), (iso F d n st ct re (i : Int) t).2.2) := if_neg (Int.not_lt.mpr cb2)
              rw [if_neg (Int.not_lt.mpr cb2)] at k8
              have fin := ih (t + 1) (by omega) σ4 (by rw [hs1]; exact k8) (by rw [k9]; push_cast; omega) (by rw [k11 _ (by omega) (by omega) (by omega)]; exact k5) (fun q h1 h2 h3 => by rw [k11 q (by omega) (by omega) (by omega), k7 q (by omega) h2]; exact fr1 q h1 h2 h3) (fun u hu => if h9 : u < t then f5 u h9 else by rw [show u = t by omega]; exact cw) (s + 1) (by omega)
              rw [hs1] at fin
              exact fin
            · refine q_iload d_He_isolate_211 rfl ?_
              refine q_ist_8 d_He_isolate_213 (by decide) rfl ?_
              refine q_goto (tgt := 222) d_He_isolate_215 (by decide) ?_
              refine q_iinc_9 d_He_isolate_222 (by decide) rfl ?_
              refine q_goto (tgt := 129) d_He_isolate_225 (by decide) ?_
              refine q_drop_6 ?_
              refine q_drop_5 ?_
              have hs1 : iso F d n st ct re (i : Int) (t + 1) = ((iso F d n st ct re (i : Int) t).1 * 2 ^ 1 + 0, (iso F d n st ct re (i : Int) t).2.1, upt F d n st ((iso F d n st ct re (i : Int) t).1 * 2 ^ 1 + 1) (-re + t + 1)) := if_pos (Int.not_le.mp cb2)
              rw [if_pos (Int.not_le.mp cb2)] at k8
              have fin := ih (t + 1) (by omega) σ4 (by rw [hs1]; exact k8) (by rw [k9]; push_cast; omega) (by rw [k11 _ (by omega) (by omega) (by omega)]; exact k5) (fun q h1 h2 h3 => by rw [k11 q (by omega) (by omega) (by omega), k7 q (by omega) h2]; exact fr1 q h1 h2 h3) (fun u hu => if h9 : u < t then f5 u h9 else by rw [show u = t by omega]; exact cw) (s + 1) (by omega)
              rw [hs1] at fin
              exact fin
  refine q_aload_n d_He_isolate_0 rfl ?_
  refine q_gr hH0 pc_He 3 (by decide) w_fl_He_35 rfl (by rfl) d_He_isolate_1 ?_
  refine q_iload_n d_He_isolate_4 rfl ?_
  refine q_aal (i) 6 (b := a + 153 + 3 * i) rfl hrg (by omega) (by omega) (by omega) (hrg2 _ hi) d_He_isolate_5 ?_
  refine q_ast_n_3 d_He_isolate_6 (by decide) rfl ?_
  refine q_aload_n d_He_isolate_7 rfl ?_
  refine q_gi hro.1 pc_Ro 3 (by decide) w_fl_He_115 rfl (by rfl) d_He_isolate_8 ?_
  refine q_topi hfd ?_
  refine q_if_eq (tgt := 15) (by omega) d_He_isolate_11 (by decide) (fun c11 => ?_) (fun c11 => absurd c11 (by omega))
  refine q_aload_n d_He_isolate_15 rfl ?_
  refine q_gr hb0 pc_Be 12 (by decide) w_fl_He_140 rfl (by rfl) d_He_isolate_16 ?_
  refine q_ast_4 d_He_isolate_19 (by decide) rfl ?_
  refine q_aload d_He_isolate_21 rfl ?_
  refine q_lconst (z := 0) d_He_isolate_23 (by decide) ?_
  refine q_iconst d_He_isolate_24 rfl ?_
  refine q_callV (As := [vl 0, vi 0]) (c_Pt_placeLong l K σ hpt (by omega)) w_cd_Pt_placeLong w_ini_Pt w_ml_He_144 w_im_Pt_placeLong w_se_Pt_placeLong hpt.1 rfl hd_Pt_placeLong rfl (Nat.le_of_ble_eq_true rfl) d_He_isolate_25 (by decide) (by decide) (fun v σ1 hp => ?_)
  obtain ⟨rfl, k1, k2, k3⟩ := hp
  have fr1 : ∀ q, (q ≤ B ∨ (B + 7 ≤ q ∧ q ≤ B + 24) ∨ B + 28 ≤ q) → q ≠ a + 22 → (q < a + 153 + 3 * i ∨ a + 153 + 3 * i + 2 < q) → σ1 q = σ q := fun q h1 h2 h3 => k3 q (by omega) (by omega) (by omega)
  refine q_aload_n d_He_isolate_28 rfl ?_
  refine q_gi hH0 pc_He 7 (by decide) w_fl_He_102 rfl (by rfl) d_He_isolate_29 ?_
  refine q_topi (show _ = st by rw [fr1 _ (by omega) (by omega) (by omega)]; exact hst) ?_
  refine q_aload_n d_He_isolate_32 rfl ?_
  refine q_gr hH0 pc_He 2 (by decide) w_fl_He_29 rfl (by rfl) d_He_isolate_33 ?_
  refine q_aload d_He_isolate_36 rfl ?_
  refine q_aload_n d_He_isolate_38 rfl ?_
  refine q_callV (As := [.ref (B + 25), .ref B]) (c_Ch_changesAt l K (ch := a + 22) (h := 9) (x := B + 25) (n := n) (ex := ptE 0) (u := u) (v := v) (c := c) (X := ptX 0 0) (F := F) (d := d) hn1 hch hbL hpt (by omega) (by omega) (by omega) (by rw [k3 _ (by omega) (by omega) (by omega)]; exact hn) hn10 hdN (fun k hk => by have p1 := chO_end (h := 9) (k := k) (by omega); have p2 := chO_ge (h := 9) (k := k); have p3 := hdN k hk; rw [fr1 _ (by omega) (by omega) (by omega)]; exact hdeg k hk) (fun k hk i hi => by have p1 := chO_end (h := 9) (k := k) (by omega); have p2 := chO_ge (h := 9) (k := k); have p3 := hdN k hk; exact (hP k hk i hi).mv (fr1 _ (by omega) (by omega) (by omega)) (fr1 _ (by omega) (by omega) (by omega))) k1 k2 hf0.2.2.2 hf0.1 hFb hf0.2.1 huv hf0.2.2.1) w_cd_Ch_changesAt w_ini_Ch w_ml_He_133 w_im_Ch_changesAt w_se_Ch_changesAt hc0 rfl hd_Ch_changesAt rfl (Nat.le_of_ble_eq_true rfl) d_He_isolate_39 (by decide) (by decide) (fun v σ2 hp => ?_)
  obtain ⟨rfl, k4, k5, k6⟩ := hp
  have k5' : σ2 (a + 22) 2 = lks F d 0 0 0 := k5
  have fr2 : ∀ q, (q ≤ B ∨ (B + 7 ≤ q ∧ q ≤ B + 24) ∨ B + 28 ≤ q) → q ≠ a + 22 → (q < a + 153 + 3 * i ∨ a + 153 + 3 * i + 2 < q) → σ2 q = σ q := fun q h1 h2 h3 => (k6 q (by omega) h2).trans (fr1 q h1 h2 h3)
  have r0 : -100 ≤ upt F d n st 0 0 ∧ upt F d n st 0 0 ≤ 100 := upt_r hst2 hn10
  have r1 : -1 ≤ lks F d 0 0 0 ∧ lks F d 0 0 0 ≤ 1 := sgn_b _
  have r2 : -101 ≤ blw F d n st 0 0 ∧ blw F d n st 0 0 ≤ 100 := by unfold blw; split <;> omega
  refine q_isub d_He_isolate_42 ?_
  refine q_topi (show _ = upt F d n st 0 0 from rfl) ?_
  refine q_ist_5 d_He_isolate_43 (by decide) rfl ?_
  refine q_aload_n d_He_isolate_45 rfl ?_
  refine q_gr hH0 pc_He 2 (by decide) w_fl_He_29 rfl (by rfl) d_He_isolate_46 ?_
  refine q_gi hc0 pc_Ch 2 (by decide) w_fl_He_137 rfl (by rfl) d_He_isolate_49 ?_
  refine q_topi k5' ?_
  refine q_jn1 (V := blw F d n st 0 0) 64 (fun jn => ?_) ?_
  · refine q_if_ne (tgt := 62) (by omega) d_He_isolate_52 (by decide) (fun cz => ?_) (fun cz => ?_)
    · refine q_iload d_He_isolate_62 rfl ?_
      exact jn _ ((if_neg cz).symm)
    · refine q_iload d_He_isolate_55 rfl ?_
      refine q_iconst d_He_isolate_57 rfl ?_
      refine q_isub d_He_isolate_58 ?_
      refine q_goto (tgt := 64) d_He_isolate_59 (by decide) ?_
      exact jn _ ((if_pos cz).symm)
  · refine q_ist_6 d_He_isolate_64 (by decide) rfl ?_
    refine q_aload_n d_He_isolate_66 rfl ?_
    refine q_gr hro.1 pc_Ro 0 (by decide) w_fl_He_150 rfl (by rfl) d_He_isolate_67 ?_
    refine q_iload_n d_He_isolate_70 rfl ?_
    refine q_iload d_He_isolate_71 rfl ?_
    refine q_jnl2 (V := if (i : Int) < blw F d n st 0 0 then -1 else (0 : Int)) 83 (fun jn => ?_) ?_
    · refine q_icmp_ge (tgt := 82) (by omega) (by omega) d_He_isolate_73 (by decide) (fun cb => ?_) (fun cb => ?_)
      · refine q_lconst (z := 0) d_He_isolate_82 (by decide) ?_
        exact jn _ ((if_neg (Int.not_lt.mpr cb)).symm)
      · refine q_ldc2 (z := -1) w_kl_He_154 (by decide) d_He_isolate_76 ?_
        refine q_goto (tgt := 83) d_He_isolate_79 (by decide) ?_
        exact jn _ ((if_pos (Int.not_le.mp cb)).symm)
    · refine q_callV (As := [vl (if (i : Int) < blw F d n st 0 0 then -1 else (0 : Int))]) (q_Nu_setLong l K σ2 hro.2 (by decide) (by split <;> omega)) w_cd_Nu_setLong w_ini_Nu w_ml_He_44 w_im_Nu_setLong w_se_Nu_setLong hro.2.1.1 rfl hd_Nu_setLong rfl (Nat.le_of_ble_eq_true rfl) d_He_isolate_83 (by decide) (by decide) (fun v σ3 hp => ?_)
      obtain ⟨rfl, k7, k8⟩ := hp
      refine q_aload_n d_He_isolate_86 rfl ?_
      refine q_aload_n d_He_isolate_87 rfl ?_
      refine q_gi hH0 pc_He 8 (by decide) w_fl_He_121 rfl (by rfl) d_He_isolate_88 ?_
      refine q_topi (show _ = re by rw [k8 _ (by omega) (by omega), fr2 _ (by omega) (by omega) (by omega)]; exact hre) ?_
      refine q_ineg d_He_isolate_91 ?_
      refine q_pi hro.1 pc_Ro 1 (by decide) w_fl_He_156 rfl rfl rfl rfl (by rfl) d_He_isolate_92 ?_
      refine q_iload_n d_He_isolate_95 rfl ?_
      refine q_iload d_He_isolate_96 rfl ?_
      refine q_jn2 (V := if (i : Int) < blw F d n st 0 0 then 0 else blw F d n st 0 0) 107 (fun jn => ?_) ?_
      · refine q_icmp_ge (tgt := 105) (by omega) (by omega) d_He_isolate_98 (by decide) (fun cb2 => ?_) (fun cb2 => ?_)
        · refine q_iload d_He_isolate_105 rfl ?_
          exact jn _ ((if_neg (Int.not_lt.mpr cb2)).symm)
        · refine q_iconst d_He_isolate_101 rfl ?_
          refine q_goto (tgt := 107) d_He_isolate_102 (by decide) ?_
          exact jn _ ((if_pos (Int.not_le.mp cb2)).symm)
      · refine q_ist_7 d_He_isolate_107 (by decide) rfl ?_
        refine q_iload_n d_He_isolate_109 rfl ?_
        refine q_iload d_He_isolate_110 rfl ?_
        refine q_jn2 (V := if (i : Int) < blw F d n st 0 0 then upt F d n st 0 0 else ct) 124 (fun jn => ?_) ?_
        · refine q_icmp_ge (tgt := 120) (by omega) (by omega) d_He_isolate_112 (by decide) (fun cb3 => ?_) (fun cb3 => ?_)
          · refine q_aload_n d_He_isolate_120 rfl ?_
            refine q_gi hH0 pc_He 5 (by decide) w_fl_He_112 rfl (by rfl) d_He_isolate_121 ?_
            refine q_topi (show _ = ct by rw [q_up_a _ _ (by omega), k8 _ (by omega) (by omega), fr2 _ (by omega) (by omega) (by omega)]; exact hct) ?_
            exact jn _ ((if_neg (Int.not_lt.mpr cb3)).symm)
          · refine q_iload d_He_isolate_115 rfl ?_
            refine q_goto (tgt := 124) d_He_isolate_117 (by decide) ?_
            exact jn _ ((if_pos (Int.not_le.mp cb3)).symm)
        · refine q_ist_8 d_He_isolate_124 (by decide) rfl ?_
          refine q_iconst d_He_isolate_126 rfl ?_
          refine q_ist_9 d_He_isolate_127 (by decide) rfl ?_
          have hi0 : iso F d n st ct re (i : Int) 0 = (if (i : Int) < blw F d n st 0 0 then -1 else 0, if (i : Int) < blw F d n st 0 0 then 0 else blw F d n st 0 0, if (i : Int) < blw F d n st 0 0 then upt F d n st 0 0 else ct) := by
            show (if (i : Int) < blw F d n st 0 0 then _ else _) = _
            by_cases hh : (i : Int) < blw F d n st 0 0
            · rw [if_pos hh, if_pos hh, if_pos hh, if_pos hh]
            · rw [if_neg hh, if_neg hh, if_neg hh, if_neg hh]
          refine q_drop_6 ?_
          refine q_drop_5 ?_
          have fin := loop T0 0 (by omega) (q_up σ3 (a + 153 + 3 * i) 1 (-re)) (by rw [hi0]; exact k7.mv' (by omega)) (by rw [q_up_self]; omega) (by rw [q_up_a _ _ (by omega), k8 _ (by omega) (by omega)]; exact k4) (fun q h1 h2 h3 => by rw [q_up_a _ _ (by omega), k8 q (by omega) (by omega)]; exact fr2 q h1 h2 h3) (fun u hu => by omega) _ rfl
          rw [hi0] at fin
          exact fin
