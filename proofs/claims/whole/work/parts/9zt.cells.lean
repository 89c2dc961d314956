/-! THE REFERENCE'S CELLS: what changes tells, and that fine cells have one change at most -/
theorem df.aff {f f1 : Rat → Rat} (h : df f f1) (lo : Rat) {wd : Rat} (hw : 0 < wd) : df (fun t => f (lo + wd * t)) (fun t => wd * f1 (lo + wd * t)) := fun B => by
  obtain ⟨L, hL0, hL⟩ := ab.self lo
  obtain ⟨M, hM, h1⟩ := h (L + wd * B)
  have bd : ∀ x, ab x B → ab (lo + wd * x) (L + wd * B) := fun x hx => by
    have a1 := Rat.mul_le_mul_of_nonneg_left hx.1 (Rat.le_of_lt hw)
    have a2 := Rat.mul_le_mul_of_nonneg_left hx.2 (Rat.le_of_lt hw)
    unfold ab at hL ⊢
    grind
  refine ⟨M * (wd * wd), Rat.mul_pos hM (Rat.mul_pos hw hw), fun x y hx hy hxy => ?_⟩
  have h2 := h1 _ _ (bd x hx) (bd y hy) (by have := Rat.mul_le_mul_of_nonneg_left hxy (Rat.le_of_lt hw); grind)
  have e1 : lo + wd * y - (lo + wd * x) = wd * (y - x) := by grind
  have e2 : (y - x) * (wd * f1 (lo + wd * x)) = wd * (y - x) * f1 (lo + wd * x) := by grind
  have e3 : M * (wd * wd) * ((y - x) * (y - x)) = M * (wd * (y - x) * (wd * (y - x))) := by grind
  rw [e1] at h2
  rw [e2, e3]
  exact h2
theorem gch_ex {P w : Nat → Int} {n mm : Nat} (hz : ∀ c, n < c → P c = 0) (hPn : P n ≠ 0) (hn : n ≤ 8) (hb : ∀ k, (P k).natAbs ≤ 2147483648) (hf : fcp P n w mm) (h1 : 1 ≤ mm) : ∃ (M : Nat) (F : Nat → Nat → Int) (d : Nat → Nat), gch P n M F d ∧ F 0 = w ∧ d 0 = mm := by
  obtain ⟨m1, rfl⟩ : ∃ m1, mm = m1 + 1 := ⟨mm - 1, by omega⟩
  have hl := fcp_l1 hf hn hb hz
  have hmn := hf.1
  have hl2 := l1_dP8 (m := m1 + 1) (by omega) hl
  obtain ⟨M, F, d, hM, e0, e1, d0, d1, hc⟩ := chs_ex (n := m1 + 1) (m := m1) hf.2.1 (fun c hc => by show dP w c = 0; unfold dP; rw [hf.2.1 _ (by omega), Int.mul_zero]) hf.2.2.1 (by unfold dP; exact Int.mul_ne_zero (by omega) hf.2.2.1) (by omega) hl hl2
  refine ⟨M, F, d, ⟨hz, hPn, hn, hb, Or.inr ⟨by omega, hM, ⟨_, _, by rw [d0]; exact Nat.le_refl _, by rw [d0]; exact Nat.le_refl _, hc⟩, prep_c hf hc hM e0 (fun c => by rw [e0, e1]) d0 (by omega), fun c => by rw [e0, e1], by omega, by rw [e0, d0]; exact hf⟩⟩, e0, d0⟩
theorem p2c (k : Nat) : ((2 ^ k : Int) : Rat) ≠ 0 := by have := tpp k; grind
theorem cT_ev (P : Nat → Int) (n : Nat) (Lo : Int) (W f : Nat) (t : Rat) : ∀ s, s ≤ n → ev (cT P n Lo W f s) (s + 1) t = ((2 ^ (f * s) : Int) : Rat) * ev (fun k => P (n - s + k)) (s + 1) (((Lo : Rat) + ((2 ^ W : Int) : Rat) * t) / ((2 ^ f : Int) : Rat))
  | 0, _ => by
    have e1 : ∀ (A : Nat → Int) (x : Rat), ev A (0 + 1) x = A 0 := fun A x => by rw [ev_cons]; show (A 0 : Rat) + x * 0 = _; grind
    rw [e1, e1, cT, if_pos rfl, Nat.mul_zero, tp0, Nat.sub_zero, Nat.add_zero]; grind
  | s + 1, hs => by
    have ih := cT_ev P n Lo W f t s (by omega)
    rw [ev_cons, ev_cons (fun k => P (n - (s + 1) + k))]
    have c1 : cT P n Lo W f (s + 1) 0 = cT P n Lo W f s 0 * Lo + P (n - (s + 1)) * 2 ^ (f * (s + 1)) := by rw [cT, if_pos rfl]
    have c2 : ev (fun k => cT P n Lo W f (s + 1) (k + 1)) (s + 1) t = Lo * ev (fun k => cT P n Lo W f s (k + 1)) (s + 1) t + ((2 ^ W : Int) : Rat) * ev (cT P n Lo W f s) (s + 1) t := by
      rw [← ev_lin]
      refine ev_congr (fun k _ => ?_) t
      rw [cT, if_neg (by omega), Nat.add_sub_cancel]
      grind
    have c3 : ev (cT P n Lo W f s) (s + 1) t = cT P n Lo W f s 0 + t * ev (fun k => cT P n Lo W f s (k + 1)) (s + 1) t := by
      rw [← ev_cons]
      exact (ev_pad (by omega) (fun k h1 h2 => cT_z s k (by omega)) t).symm
    have c4 : ev (fun k => P (n - (s + 1) + (k + 1))) (s + 1) (((Lo : Rat) + ((2 ^ W : Int) : Rat) * t) / ((2 ^ f : Int) : Rat)) = ev (fun k => P (n - s + k)) (s + 1) (((Lo : Rat) + ((2 ^ W : Int) : Rat) * t) / ((2 ^ f : Int) : Rat)) := ev_congr (fun k _ => by congr 1; omega) _
    have c5 : ((2 ^ (f * (s + 1)) : Int) : Rat) = ((2 ^ (f * s) : Int) : Rat) * ((2 ^ f : Int) : Rat) := by rw [← Rat.intCast_mul, ← Int.pow_add, Nat.mul_add, Nat.mul_one]
    rw [c1, c2, c4, Nat.add_zero, Rat.intCast_add, Rat.intCast_mul, Rat.intCast_mul, c5]
    have hy : ((Lo : Rat) + ((2 ^ W : Int) : Rat) * t) / ((2 ^ f : Int) : Rat) * ((2 ^ f : Int) : Rat) = (Lo : Rat) + ((2 ^ W : Int) : Rat) * t := Rat.div_mul_cancel (p2c f)
    generalize ((Lo : Rat) + ((2 ^ W : Int) : Rat) * t) / ((2 ^ f : Int) : Rat) = Y at *
    generalize ev (fun k => P (n - s + k)) (s + 1) Y = E at *
    generalize ev (cT P n Lo W f s) (s + 1) t = G at *
    generalize ev (fun k => cT P n Lo W f s (k + 1)) (s + 1) t = H at *
    generalize ((2 ^ (f * s) : Int) : Rat) = A at *
    generalize ((2 ^ f : Int) : Rat) = D at *
    generalize ((2 ^ W : Int) : Rat) = V at *
    have z1 : A * D * (Y * E) = G * (Lo + V * t) := by rw [ih, ← hy]; grind
    have z2 : A * D * ((P (n - (s + 1)) : Rat) + Y * E) = A * D * (P (n - (s + 1)) : Rat) + G * (Lo + V * t) := by rw [← z1]; grind
    have z3 : n - (s + 1) + 0 = n - (s + 1) := by omega
    rw [z3, z2]
    grind
/-- what changes looks at: the polynomial over the cell -/
theorem cT_q (P : Nat → Int) (n : Nat) (Lo : Int) (W f : Nat) (t : Rat) : ((2 ^ (f * n) : Int) : Rat) * ev P (n + 1) ((Lo : Rat) / ((2 ^ f : Int) : Rat) + ((2 ^ W : Int) : Rat) / ((2 ^ f : Int) : Rat) * t) = ev (cT P n Lo W f n) (n + 1) t := by
  rw [cT_ev P n Lo W f t n (Nat.le_refl _)]
  have e1 : ((Lo : Rat) + ((2 ^ W : Int) : Rat) * t) / ((2 ^ f : Int) : Rat) = (Lo : Rat) / ((2 ^ f : Int) : Rat) + ((2 ^ W : Int) : Rat) / ((2 ^ f : Int) : Rat) * t := by rw [Rat.div_def, Rat.div_def, Rat.div_def]; grind
  rw [← e1, ev_congr (P := fun k => P (n - n + k)) (Q := P) (fun k _ => by congr 1; omega)]
theorem cT_bd {P : Nat → Int} {n : Nat} {Lo : Int} {W f c Y : Nat} (hP : ∀ k, (P k).natAbs ≤ 2 ^ c) (hL : Lo.natAbs ≤ 2 ^ Y) (hf : f ≤ Y) : ∀ s i, i ≤ s → (cT P n Lo W f s i).natAbs ≤ 2 ^ (c + s + Y * (s - i) + W * i)
  | 0, i, hi => by
    rw [show i = 0 by omega, cT, if_pos rfl]
    exact Nat.le_trans (hP n) (Nat.pow_le_pow_right (by omega) (by omega))
  | s + 1, i, hi => by
    have step : ∀ {x y A : Nat}, x ≤ 2 ^ A → y ≤ 2 ^ A → x + y ≤ 2 ^ (A + 1) := fun {x y A} h1 h2 => by rw [Nat.pow_succ]; omega
    rw [cT]
    split
    · rename_i e
      subst e
      refine Nat.le_trans (Int.natAbs_add_le _ _) ?_
      rw [show c + (s + 1) + Y * (s + 1 - 0) + W * 0 = c + s + Y * (s + 1) + 1 by rw [Nat.mul_zero, Nat.sub_zero]; omega]
      refine step ?_ ?_
      · rw [Int.natAbs_mul]
        refine Nat.le_trans (Nat.mul_le_mul (cT_bd hP hL hf s 0 (by omega)) hL) ?_
        rw [← Nat.pow_add]
        refine Nat.pow_le_pow_right (by omega) ?_
        rw [Nat.mul_zero, Nat.sub_zero, Nat.mul_add]; omega
      · rw [Int.natAbs_mul, Int.natAbs_pow]
        refine Nat.le_trans (Nat.mul_le_mul (hP _) (Nat.le_refl _)) ?_
        rw [show (2 : Int).natAbs = 2 from rfl, ← Nat.pow_add]
        refine Nat.pow_le_pow_right (by omega) ?_
        have := Nat.mul_le_mul_right (s + 1) hf
        omega
    · rename_i e
      refine Nat.le_trans (Int.natAbs_add_le _ _) ?_
      rw [show c + (s + 1) + Y * (s + 1 - i) + W * i = c + s + Y * (s + 1 - i) + W * i + 1 by omega]
      refine step ?_ ?_
      · rcases Nat.lt_or_ge s i with h | h
        · rw [cT_z s i h]; simp
        · rw [Int.natAbs_mul]
          refine Nat.le_trans (Nat.mul_le_mul (cT_bd hP hL hf s i h) hL) ?_
          rw [← Nat.pow_add]
          refine Nat.pow_le_pow_right (by omega) ?_
          rw [show s + 1 - i = s - i + 1 by omega, Nat.mul_add]; omega
      · rw [Int.natAbs_mul, Int.natAbs_pow]
        refine Nat.le_trans (Nat.mul_le_mul (cT_bd hP hL hf s (i - 1) (by omega)) (Nat.le_refl _)) ?_
        rw [show (2 : Int).natAbs = 2 from rfl, ← Nat.pow_add]
        refine Nat.pow_le_pow_right (by omega) ?_
        rw [show s - (i - 1) = s + 1 - i by omega]
        have : W * i = W * (i - 1) + W := by rw [← Nat.mul_succ]; congr 1; omega
        omega
theorem fbm_549 : ∀ m, m ≤ 8 → fbm m * (m - 1) + (fbm m + 3) * m ≤ 549 := by unfold fbm; decide +kernel
theorem fbm_344 : ∀ m, m ≤ 8 → fbm m + m + 43 * (m - 1) ≤ 344 := by unfold fbm; decide +kernel
theorem gch.bz {P : Nat → Int} {n M : Nat} {F : Nat → Nat → Int} {d : Nat → Nat} (h : gch P n M F d) (h1 : 1 ≤ d 0) : ∃ (α β : Nat → Int) (R : Int), R ≠ 0 ∧ (∀ x, ev α (d 0 - 1) x * ev (F 0) (d 0 + 1) x + ev β (d 0) x * ev (dP (F 0)) (d 0) x = R) ∧ l1 α (d 0 - 1) ≤ 2 ^ 552 ∧ l1 β (d 0) ≤ 2 ^ 552 := by
  have h8 : d 0 ≤ 8 := by have := h.cnt; have := h.2.2.1; omega
  have hb := h
  obtain ⟨p1, p2, p3, p4, p5⟩ := hb
  rcases p5 with ⟨a1, a2, a3, a4⟩ | ⟨a1, a2, ⟨f, g, hf, hg, a3⟩, a4, a5, a6, a7⟩
  · omega
  obtain ⟨sc, ht, hc, -⟩ := a3
  have hdM : 1 ≤ d (M - 1) := by
    rcases Nat.eq_or_lt_of_le a2 with e | e
    · subst e; show 1 ≤ d 0; omega
    · have := hc.2.2.1 (M - 1) (by omega) (by omega)
      omega
  obtain ⟨-, -, -, hR⟩ := hc.2.2.2.2.2.2.2.2.1 (d (M - 1)) hdM (by omega)
  have hR := hR rfl
  have hF1 : F 1 = dP (F 0) := funext a5
  rw [hF1, show d 1 = d 0 - 1 by omega] at hR
  have hb0 := Nat.le_trans hc.2.2.2.2.2.2.2.2.2.1 (Nat.pow_le_pow_right (by omega) hf)
  have hb1 := hc.2.2.2.2.2.2.2.2.2.2.1
  rw [hF1, show d 1 + 1 = d 0 by omega] at hb1
  have hb1 := Nat.le_trans hb1 (Nat.pow_le_pow_right (by omega) hg)
  have hQ := hc.1 0 (by omega)
  have hG : ∀ c, d 0 - 1 < c → dP (F 0) c = 0 := fun c hc => by unfold dP; rw [hQ.1 _ (by omega), Int.mul_zero]
  obtain ⟨α, β, R, r1, r2, r3, r4⟩ := bezout (F := F 0) (G := dP (F 0)) (n := d 0) (m := d 0 - 1) (e := 0) hQ.1 hG (by omega)
  rw [show d 0 - 1 + 1 = d 0 by omega] at r3 r4
  have hB : l1 (F 0) (d 0 + 1) ^ (d 0 - 1) * l1 (dP (F 0)) (d 0) ^ d 0 ≤ 2 ^ 549 := by
    refine Nat.le_trans (Nat.mul_le_mul (Nat.pow_le_pow_left hb0 _) (Nat.pow_le_pow_left hb1 _)) ?_
    rw [← Nat.pow_mul, ← Nat.pow_mul, ← Nat.pow_add]
    exact Nat.pow_le_pow_right (by omega) (fbm_549 _ h8)
  have hL0 : 1 ≤ l1 (F 0) (d 0 + 1) := by
    have := l1_ge (r := F 0) (k := d 0) (n := d 0 + 1) (by omega)
    have := hQ.2
    omega
  have hL1 : 1 ≤ l1 (dP (F 0)) (d 0) := by
    have h2 := l1_ge (r := dP (F 0)) (k := d 0 - 1) (n := d 0) (by omega)
    have h3 : dP (F 0) (d 0 - 1) ≠ 0 := by
      unfold dP
      rw [show d 0 - 1 + 1 = d 0 by omega]
      exact Int.mul_ne_zero (by omega) hQ.2
    omega
  have key : ∀ {A : Nat → Int} {k l : Nat}, k ≤ 8 → 1 ≤ l → (∀ i, (A i).natAbs * l ≤ l1 (F 0) (d 0 + 1) ^ (d 0 - 1) * l1 (dP (F 0)) (d 0) ^ d 0) → l1 A k ≤ 2 ^ 552 := fun {A k l} hk hl hA => by
    refine Nat.le_trans (l1_le (H := 2 ^ 549) (fun i _ => Nat.le_trans (Nat.le_mul_of_pos_right _ hl) (Nat.le_trans (hA i) hB))) ?_
    rw [show 552 = 3 + 549 by omega, Nat.pow_add]
    exact Nat.mul_le_mul_right _ hk
  refine ⟨α, β, R, fun h0 => hR (by rw [h0] at r1; exact Int.natAbs_eq_zero.1 r1.symm), fun x => ?_, key (by omega) hL0 r3, key h8 hL1 r4⟩
  have h3 := ev_qs (v := F 0) (m := d 0 + 1) (fun k hk => hQ.1 k (by omega)) α x (d 0 + (d 0 - 1)) (d 0 - 1) (by omega)
  have h4 := ev_qs (v := dP (F 0)) (m := d 0) (fun k hk => hG k (by omega)) β x (d 0 + (d 0 - 1)) (d 0) (by omega)
  rw [← h3, ← h4, ← ev_sum, ev_congr (fun k _ => r2 k) x, ev_single, if_pos (by omega), Rat.pow_zero]; grind
/-- the first two coefficients over a cell -/
theorem cT_01 (P : Nat → Int) {n : Nat} (hn : 1 ≤ n) (Lo : Int) (f : Nat) : ((cT P n Lo 0 f n 0 : Int) : Rat) = ((2 ^ (f * n) : Int) : Rat) * ev P (n + 1) ((Lo : Rat) / ((2 ^ f : Int) : Rat)) ∧ ((cT P n Lo 0 f n 1 : Int) : Rat) * ((2 ^ f : Int) : Rat) = ((2 ^ (f * n) : Int) : Rat) * ev (dP P) n ((Lo : Rat) / ((2 ^ f : Int) : Rat)) := by
  have ez : ∀ (A : Nat → Int) (k : Nat), ev A (k + 1) 0 = A 0 := fun A k => by rw [ev_cons]; grind
  have hwd : (0 : Rat) < ((2 ^ 0 : Int) : Rat) / ((2 ^ f : Int) : Rat) := by rw [Rat.div_def]; exact Rat.mul_pos (tpp 0) (Rat.inv_pos.2 (tpp f))
  constructor
  · have h := cT_q P n Lo 0 f 0
    rw [ez] at h
    rw [← h]
    congr 2
    grind
  · have h1 := ev_df (cT P n Lo 0 f n) (n + 1)
    have h2 := ((ev_df P (n + 1)).aff ((Lo : Rat) / ((2 ^ f : Int) : Rat)) hwd).smul ((2 ^ (f * n) : Int) : Rat) (by
      obtain h9 := ev_lp (cT P n Lo 0 f n) (n + 1)
      have h8 := h9.smul (((2 ^ (f * n) : Int) : Rat)⁻¹)
      refine h8.congr (fun t => ?_)
      rw [← cT_q P n Lo 0 f t, ← Rat.mul_assoc, Rat.inv_mul_cancel _ (p2c _), Rat.one_mul])
    have h3 := (h1.congr (fun t => cT_q P n Lo 0 f t) (fun _ => rfl)).uniq h2 0
    rw [Nat.add_sub_cancel] at h3
    obtain ⟨k, rfl⟩ : ∃ k, n = k + 1 := ⟨n - 1, by omega⟩
    rw [ez] at h3
    have h4 : dP (cT P (k + 1) Lo 0 f (k + 1)) 0 = cT P (k + 1) Lo 0 f (k + 1) 1 := by unfold dP; rw [Nat.zero_add]; omega
    rw [h4] at h3
    rw [h3]
    have e1 : (Lo : Rat) / ((2 ^ f : Int) : Rat) + ((2 ^ 0 : Int) : Rat) / ((2 ^ f : Int) : Rat) * 0 = (Lo : Rat) / ((2 ^ f : Int) : Rat) := by grind
    rw [e1, tp0]
    have e2 : (1 : Rat) / ((2 ^ f : Int) : Rat) * ((2 ^ f : Int) : Rat) = 1 := Rat.div_mul_cancel (p2c f)
    generalize ev (dP P) (k + 1) ((Lo : Rat) / ((2 ^ f : Int) : Rat)) = E at *
    generalize ((2 ^ (f * (k + 1)) : Int) : Rat) = A at *
    generalize (1 : Rat) / ((2 ^ f : Int) : Rat) = w at *
    generalize ((2 ^ f : Int) : Rat) = D at *
    have : A * (w * E) * D = A * E * (w * D) := by grind
    rw [this, e2]; grind
theorem nab_R (z : Int) : ab (z : Rat) ((z.natAbs : Nat) : Rat) := by
  have h1 : ((z.natAbs : Nat) : Rat) = ((z.natAbs : Int) : Rat) := rfl
  unfold ab
  rw [h1, ← Rat.intCast_neg]
  exact ⟨Rat.intCast_le_intCast.2 (by omega), Rat.intCast_le_intCast.2 (by omega)⟩
theorem ab_mul2 {a b A B : Rat} (h1 : ab a A) (h2 : ab b B) : ab (a * b) (A * B) := h1.mul h2
theorem ca_nn (k : Nat) : ((2 ^ k : Nat) : Rat) = ((2 ^ k : Int) : Rat) := by
  show ((((2 ^ k : Nat) : Int)) : Rat) = _
  rw [Int.natCast_pow]; rfl
/-- the first two coefficients aren't both small -/
theorem gch.b01 {P : Nat → Int} {n M : Nat} {F : Nat → Nat → Int} {d : Nat → Nat} (h : gch P n M F d) (h1 : 1 ≤ d 0) {Lo : Int} {f : Nat} (hLo : Lo.natAbs ≤ 2 ^ (43 + f)) : 2 ^ (f * d 0) ≤ 2 ^ 853 * (cT (F 0) (d 0) Lo 0 f (d 0) 0).natAbs + 2 ^ (853 + f) * (cT (F 0) (d 0) Lo 0 f (d 0) 1).natAbs := by
  have h8 : d 0 ≤ 8 := by have := h.cnt; have := h.2.2.1; omega
  obtain ⟨α, β, R, hR, hbz, ha, hb⟩ := h.bz h1
  obtain ⟨t0, t1⟩ := cT_01 (F 0) h1 Lo f
  have hx : ab ((Lo : Rat) / ((2 ^ f : Int) : Rat)) ((2 ^ 43 : Nat) : Rat) := by
    have a1 := nab_R Lo
    have a2 := nc_le hLo
    rw [Nat.pow_add, Rat.natCast_mul, ca_nn f] at a2
    have a3 := tpp f
    have a4 : (Lo : Rat) / ((2 ^ f : Int) : Rat) * ((2 ^ f : Int) : Rat) = Lo := Rat.div_mul_cancel (p2c f)
    generalize (Lo : Rat) / ((2 ^ f : Int) : Rat) = y at *
    generalize ((2 ^ f : Int) : Rat) = D at *
    generalize ((2 ^ 43 : Nat) : Rat) = X at *
    unfold ab at a1 ⊢
    rw [← a4] at a1
    refine ⟨?_, ?_⟩
    · refine Rat.not_lt.1 (fun hc => ?_)
      have := Rat.mul_lt_mul_of_pos_right hc a3
      grind
    · refine Rat.not_lt.1 (fun hc => ?_)
      have := Rat.mul_lt_mul_of_pos_right hc a3
      grind
  have hX1 : (1 : Rat) ≤ ((2 ^ 43 : Nat) : Rat) := nc_le (a := 1) (Nat.pow_pos (by omega))
  have hval := hbz ((Lo : Rat) / ((2 ^ f : Int) : Rat))
  have va := ev_ab (P := α) hX1 hx 7 (d 0 - 1) (by omega)
  have vb := ev_ab (P := β) hX1 hx 7 (d 0) (by omega)
  have bound : ∀ {A : Nat → Int} {k : Nat}, l1 A k ≤ 2 ^ 552 → ((l1 A k : Nat) : Rat) * ((2 ^ 43 : Nat) : Rat) ^ 7 ≤ ((2 ^ 853 : Nat) : Rat) := fun {A k} hk => by
    have e1 : ((2 ^ 43 : Nat) : Rat) ^ 7 = ((2 ^ 301 : Nat) : Rat) := by
      rw [← Rat.natCast_pow, ← Nat.pow_mul]
    rw [e1, ← Rat.natCast_mul]
    refine nc_le (Nat.le_trans (Nat.mul_le_mul_right _ hk) ?_)
    rw [← Nat.pow_add]
    exact Nat.le_refl _
  have va := va.le (bound ha)
  have vb := vb.le (bound hb)
  clear ha hb bound hbz
  generalize (Lo : Rat) / ((2 ^ f : Int) : Rat) = x at *
  have q0 := nab_R (cT (F 0) (d 0) Lo 0 f (d 0) 0)
  have q1 := nab_R (cT (F 0) (d 0) Lo 0 f (d 0) 1)
  have m0 := va.mul q0
  have m1 := vb.mul q1
  rw [t0] at m0
  have hc := tpp (f * d 0)
  have hD := tpp f
  -- c R = alpha T0 + beta T1 D
  have hsum : ((2 ^ (f * d 0) : Int) : Rat) * R = ev α (d 0 - 1) x * (((2 ^ (f * d 0) : Int) : Rat) * ev (F 0) (d 0 + 1) x) + ev β (d 0) x * ((cT (F 0) (d 0) Lo 0 f (d 0) 1 : Int) : Rat) * ((2 ^ f : Int) : Rat) := by
    rw [← hval, Rat.mul_assoc (ev β (d 0) x), t1]; grind
  have hR1 : ab (((2 ^ (f * d 0) : Int) : Rat) * R) (((2 ^ 853 : Nat) : Rat) * (((cT (F 0) (d 0) Lo 0 f (d 0) 0).natAbs : Nat) : Rat) + ((2 ^ 853 : Nat) : Rat) * (((cT (F 0) (d 0) Lo 0 f (d 0) 1).natAbs : Nat) : Rat) * ((2 ^ f : Int) : Rat)) := by
    rw [hsum]
    refine m0.add ?_
    exact m1.mul (⟨by grind, Rat.le_refl⟩ : ab ((2 ^ f : Int) : Rat) ((2 ^ f : Int) : Rat))
  have hR2 : (1 : Rat) ≤ R ∨ (R : Rat) ≤ -1 := by
    rcases Int.lt_or_le 0 R with h9 | h9
    · left; exact Rat.intCast_le_intCast (a := 1) |>.2 (by omega)
    · right; exact Rat.intCast_le_intCast (b := -1) |>.2 (by omega)
  have fin : ((2 ^ (f * d 0) : Nat) : Rat) ≤ ((2 ^ 853 * (cT (F 0) (d 0) Lo 0 f (d 0) 0).natAbs + 2 ^ (853 + f) * (cT (F 0) (d 0) Lo 0 f (d 0) 1).natAbs : Nat) : Rat) := by
    rw [Rat.natCast_add, Rat.natCast_mul, Rat.natCast_mul, Nat.pow_add, Rat.natCast_mul, ca_nn f, ca_nn (f * d 0)]
    generalize ((2 ^ 853 : Nat) : Rat) = X at *
    generalize ((2 ^ f : Int) : Rat) = D at *
    generalize ((2 ^ (f * d 0) : Int) : Rat) = C at *
    generalize (((cT (F 0) (d 0) Lo 0 f (d 0) 0).natAbs : Nat) : Rat) = A at *
    generalize (((cT (F 0) (d 0) Lo 0 f (d 0) 1).natAbs : Nat) : Rat) = B at *
    unfold ab at hR1
    have : X * B * D = X * D * B := by grind
    rcases hR2 with h9 | h9
    · have := Rat.mul_le_mul_of_nonneg_left h9 (Rat.le_of_lt hc)
      clear hsum m0 m1 q0 q1 va vb t0 t1 hval
      grind
    · have := Rat.mul_le_mul_of_nonneg_left h9 (Rat.le_of_lt hc)
      clear hsum m0 m1 q0 q1 va vb t0 t1 hval
      grind
  exact Rat.natCast_le_natCast.1 fin
theorem pw_26 : ∀ m, m ≤ 8 → (m + 1) ^ m ≤ 2 ^ 26 := by decide +kernel
theorem pw_21 : ∀ m, m ≤ 8 → m ^ (m - 1) ≤ 2 ^ 21 := by decide +kernel
theorem two_lt {a b x y : Nat} (hb : 2 ^ a ≤ 2 ^ b * x) (hy : y ≤ 2 ^ (a - b - 1)) (hab : b + 1 ≤ a) : y < x := by
  refine Nat.lt_of_not_le (fun hc => ?_)
  have h1 : 2 ^ b * x ≤ 2 ^ b * 2 ^ (a - b - 1) := Nat.mul_le_mul_left _ (Nat.le_trans hc hy)
  rw [← Nat.pow_add] at h1
  have h2 := Nat.le_trans hb h1
  have h3 : (2 : Nat) ^ (b + (a - b - 1)) < 2 ^ a := Nat.pow_lt_pow_right (by omega) (by omega)
  omega
/-- fine cells: one change at most -/
theorem gch.ch1 {P : Nat → Int} {n M : Nat} {F : Nat → Nat → Int} {d : Nat → Nat} (h : gch P n M F d) (h1 : 1 ≤ d 0) {Lo : Int} {f : Nat} (hf : 1230 ≤ f) (hLo : Lo.natAbs ≤ 2 ^ (43 + f)) : (vr (fun k => (be (d 0) (cT (F 0) (d 0) Lo 0 f (d 0)) k).sign) (d 0 + 1)).1 ≤ 1 := by
  have h8 : d 0 ≤ 8 := by have := h.cnt; have := h.2.2.1; omega
  have h01 := h.b01 h1 hLo
  have hB := cT_bd (P := F 0) (n := d 0) (Lo := Lo) (W := 0) (f := f) (c := fbm (d 0)) (Y := 43 + f) h.bits.1 hLo (by omega) (d 0)
  have h344 := fbm_344 _ h8
  generalize hT : cT (F 0) (d 0) Lo 0 f (d 0) = T at *
  generalize d 0 = m at *
  have e1 : ∀ k, 1 ≤ k → k ≤ m → (T k).natAbs ≤ 2 ^ (344 + f * (m - k)) := fun k k1 k2 => by
    refine Nat.le_trans (hB k k2) (Nat.pow_le_pow_right (by omega) ?_)
    rw [Nat.zero_mul, Nat.add_mul]
    have := Nat.mul_le_mul_left 43 (show m - k ≤ m - 1 by omega)
    omega
  have fm : f * m = f * (m - 1) + f := by
    obtain ⟨j, rfl⟩ : ∃ j, m = j + 1 := ⟨m - 1, by omega⟩
    rw [Nat.add_sub_cancel, Nat.mul_succ]
  rcases (show 2 ^ (f * m) ≤ 2 ^ 854 * (T 0).natAbs ∨ 2 ^ (f * m) ≤ 2 ^ (854 + f) * (T 1).natAbs by
    have x1 : (2 : Nat) ^ 854 = 2 * 2 ^ 853 := by rw [show 854 = 853 + 1 by omega, Nat.pow_succ, Nat.mul_comm]
    have x2 : (2 : Nat) ^ (854 + f) = 2 * 2 ^ (853 + f) := by rw [show 854 + f = 853 + f + 1 by omega, Nat.pow_succ, Nat.mul_comm]
    rw [x1, x2, Nat.mul_assoc, Nat.mul_assoc]
    generalize 2 ^ 853 * (T 0).natAbs = A at *
    generalize 2 ^ (853 + f) * (T 1).natAbs = B at *
    generalize 2 ^ (f * m) = C at *
    omega) with hc | hc
  · refine be_le1 (M1 := 2 ^ (344 + f * (m - 1))) (M2 := m * 2 ^ (344 + f * (m - 1))) h1 (fun k k1 k2 => Nat.le_trans (e1 k k1 k2) (Nat.pow_le_pow_right (by omega) (Nat.add_le_add_left (Nat.mul_le_mul_left _ (by omega)) _))) (fun k k1 k2 => ?_) (Or.inl ?_)
    · unfold dP
      rw [Int.natAbs_mul]
      refine Nat.mul_le_mul (by omega) (Nat.le_trans (e1 (k + 1) (by omega) (by omega)) (Nat.pow_le_pow_right (by omega) (Nat.add_le_add_left (Nat.mul_le_mul_left _ (by omega)) _)))
    · refine two_lt hc (Nat.le_trans (Nat.mul_le_mul_right _ (pw_26 m h8)) ?_) (by omega)
      rw [← Nat.pow_add]
      exact Nat.pow_le_pow_right (by omega) (by omega)
  · rcases Nat.lt_or_ge m 2 with hm | hm
    · refine be_le1 (M1 := 2 ^ (344 + f * (m - 1))) (M2 := 0) h1 (fun k k1 k2 => Nat.le_trans (e1 k k1 k2) (Nat.pow_le_pow_right (by omega) (Nat.add_le_add_left (Nat.mul_le_mul_left _ (by omega)) _))) (fun k k1 k2 => by omega) (Or.inr ?_)
      rw [Nat.mul_zero]
      refine Nat.pos_of_ne_zero (fun h0 => ?_)
      rw [h0, Nat.mul_zero] at hc
      have := Nat.pow_pos (n := f * m) (show 0 < 2 by omega)
      omega
    · have fm2 : f * (m - 1) = f * (m - 2) + f := by
        obtain ⟨j, rfl⟩ : ∃ j, m = j + 2 := ⟨m - 2, by omega⟩
        rw [show j + 2 - 1 = j + 1 by omega, Nat.add_sub_cancel, Nat.mul_succ]
      refine be_le1 (M1 := 2 ^ (344 + f * (m - 1))) (M2 := 2 ^ 3 * 2 ^ (344 + f * (m - 2))) h1 (fun k k1 k2 => Nat.le_trans (e1 k k1 k2) (Nat.pow_le_pow_right (by omega) (Nat.add_le_add_left (Nat.mul_le_mul_left _ (by omega)) _))) (fun k k1 k2 => ?_) (Or.inr ?_)
      · unfold dP
        rw [Int.natAbs_mul]
        refine Nat.mul_le_mul (by omega) (Nat.le_trans (e1 (k + 1) (by omega) (by omega)) (Nat.pow_le_pow_right (by omega) (Nat.add_le_add_left (Nat.mul_le_mul_left _ (by omega)) _)))
      · refine two_lt hc (Nat.le_trans (Nat.mul_le_mul_right _ (pw_21 m h8)) ?_) (by omega)
        rw [← Nat.pow_add, ← Nat.pow_add]
        exact Nat.pow_le_pow_right (by omega) (by omega)
