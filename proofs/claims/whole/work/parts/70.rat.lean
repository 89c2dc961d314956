/-- |a| ≤ b -/
def ab (a b : Rat) : Prop := -b ≤ a ∧ a ≤ b
theorem ab.nn {a b : Rat} (h : ab a b) : 0 ≤ b := by unfold ab at h; grind
theorem ab.le {a b c : Rat} (h : ab a b) (g : b ≤ c) : ab a c := by unfold ab at *; grind
theorem ab.add {a b c d : Rat} (h : ab a c) (g : ab b d) : ab (a + b) (c + d) := by unfold ab at *; grind
theorem ab.sub {a b c d : Rat} (h : ab a c) (g : ab b d) : ab (a - b) (c + d) := by unfold ab at *; grind
theorem ab.neg {a c : Rat} (h : ab a c) : ab (-a) c := by unfold ab at *; grind
theorem ab.mul {a b c d : Rat} (h : ab a c) (g : ab b d) : ab (a * b) (c * d) := by
  unfold ab at *
  have h1 := Rat.mul_nonneg (show 0 ≤ c - a by grind) (show 0 ≤ d + b by grind)
  have h2 := Rat.mul_nonneg (show 0 ≤ c + a by grind) (show 0 ≤ d - b by grind)
  have h3 := Rat.mul_nonneg (show 0 ≤ c - a by grind) (show 0 ≤ d - b by grind)
  have h4 := Rat.mul_nonneg (show 0 ≤ c + a by grind) (show 0 ≤ d + b by grind)
  grind
theorem ab.self (a : Rat) : ∃ b, 0 < b ∧ ab a b := by
  by_cases h : 0 ≤ a
  · exact ⟨a + 1, by grind, by unfold ab; grind⟩
  · exact ⟨1 - a, by grind, by unfold ab; grind⟩
/-- bounded, and of bounded slope, on every bounded stretch -/
def lp (f : Rat → Rat) : Prop := ∀ B : Rat, ∃ M : Rat, 0 < M ∧ (∀ x, ab x B → ab (f x) M) ∧ ∀ x y, ab x B → ab y B → x ≤ y → ab (f y - f x) (M * (y - x))
theorem lp.const (a : Rat) : lp (fun _ => a) := fun B => by
  obtain ⟨b, hb, hab⟩ := ab.self a
  refine ⟨b, hb, fun _ _ => hab, fun x y _ _ h => ?_⟩
  have := Rat.mul_nonneg (show 0 ≤ b by grind) (show 0 ≤ y - x by grind)
  unfold ab; grind
theorem lp.id : lp (fun x => x) := fun B => by
  obtain ⟨b, hb, hab⟩ := ab.self B
  refine ⟨b + 1, by grind, fun x hx => hx.le (by unfold ab at hab; grind), fun x y _ _ h => ?_⟩
  have := Rat.mul_nonneg (show 0 ≤ b by grind) (show 0 ≤ y - x by grind)
  unfold ab; grind
theorem lp.add {f g : Rat → Rat} (hf : lp f) (hg : lp g) : lp (fun x => f x + g x) := fun B => by
  obtain ⟨M, hM, f1, f2⟩ := hf B
  obtain ⟨N, hN, g1, g2⟩ := hg B
  refine ⟨M + N, by grind, fun x hx => (f1 x hx).add (g1 x hx), fun x y hx hy h => ?_⟩
  have := (f2 x y hx hy h).add (g2 x y hx hy h)
  rw [show f y + g y - (f x + g x) = f y - f x + (g y - g x) by grind, show (M + N) * (y - x) = M * (y - x) + N * (y - x) by grind]
  exact this
theorem lp.mul {f g : Rat → Rat} (hf : lp f) (hg : lp g) : lp (fun x => f x * g x) := fun B => by
  obtain ⟨M, hM, f1, f2⟩ := hf B
  obtain ⟨N, hN, g1, g2⟩ := hg B
  have hp := Rat.mul_pos hM hN
  refine ⟨M * N + M * N, by grind, fun x hx => ((f1 x hx).mul (g1 x hx)).le (by grind), fun x y hx hy h => ?_⟩
  have h1 := (f2 x y hx hy h).mul (g1 y hy)
  have h2 := (f1 x hx).mul (g2 x y hx hy h)
  have := h1.add h2
  rw [show f y * g y - f x * g x = (f y - f x) * g y + f x * (g y - g x) by grind, show (M * N + M * N) * (y - x) = M * (y - x) * N + M * (N * (y - x)) by grind]
  exact this
theorem lp.congr {f g : Rat → Rat} (hf : lp f) (h : ∀ x, g x = f x) : lp g := by
  rw [show g = f from funext h]; exact hf
theorem lp.smul {f : Rat → Rat} (a : Rat) (hf : lp f) : lp (fun x => a * f x) := (lp.const a).mul hf
theorem lp.neg {f : Rat → Rat} (hf : lp f) : lp (fun x => - f x) := (hf.smul (-1)).congr (fun x => by grind)
theorem lp.sub {f g : Rat → Rat} (hf : lp f) (hg : lp g) : lp (fun x => f x - g x) := (hf.add hg.neg).congr (fun x => by grind)
/-- the sign -/
def sgr (x : Rat) : Int := if x < 0 then -1 else if x = 0 then 0 else 1
theorem sgr_r (x : Rat) : sgr x = -1 ∧ x < 0 ∨ sgr x = 0 ∧ x = 0 ∨ sgr x = 1 ∧ 0 < x := by
  unfold sgr
  split
  · exact Or.inl ⟨rfl, by assumption⟩
  · split
    · exact Or.inr (Or.inl ⟨rfl, by assumption⟩)
    · exact Or.inr (Or.inr ⟨rfl, by grind⟩)
/-- the sign is the same at both, and not 0 -/
def keep (f : Rat → Rat) (x y : Rat) : Prop := 0 < f x * f y
theorem mul_pos_iff' {a b : Rat} : 0 < a * b ↔ (0 < a ∧ 0 < b) ∨ (a < 0 ∧ b < 0) := by
  constructor
  · intro h
    by_cases ha : 0 < a
    · by_cases hb : 0 < b
      · exact Or.inl ⟨ha, hb⟩
      · have := Rat.mul_nonneg (show 0 ≤ a by grind) (show 0 ≤ -b by grind); grind
    · by_cases hb : b < 0
      · by_cases ha' : a < 0
        · exact Or.inr ⟨ha', hb⟩
        · have : a = 0 := by grind
          subst this; grind
      · have := Rat.mul_nonneg (show 0 ≤ -a by grind) (show 0 ≤ b by grind); grind
  · rintro (⟨ha, hb⟩ | ⟨ha, hb⟩)
    · exact Rat.mul_pos ha hb
    · have := Rat.mul_pos (show 0 < -a by grind) (show 0 < -b by grind); grind
theorem keep.sg {f : Rat → Rat} {x y : Rat} (h : keep f x y) : sgr (f x) = sgr (f y) ∧ sgr (f x) ≠ 0 := by
  unfold keep at h
  rcases mul_pos_iff'.1 h with ⟨h1, h2⟩ | ⟨h1, h2⟩ <;> rcases sgr_r (f x) with g | g | g <;> rcases sgr_r (f y) with k | k | k <;> grind
theorem nokeep {a b d : Rat} (h : ¬ 0 < a * b) (g : ab (b - a) d) : ab a d ∧ ab b d := by
  have h1 := mul_pos_iff' (a := a) (b := b)
  have h2 : ¬ ((0 < a ∧ 0 < b) ∨ (a < 0 ∧ b < 0)) := fun h' => h (h1.2 h')
  unfold ab at *
  grind
theorem min_pos {a b : Rat} (ha : 0 < a) (hb : 0 < b) : ∃ c, 0 < c ∧ c ≤ a ∧ c ≤ b := by
  by_cases h : a ≤ b
  · exact ⟨a, ha, by grind, h⟩
  · exact ⟨b, hb, by grind, by grind⟩
/-- close enough for every property that holds near by -/
theorem near_all {P : Nat → Rat → Rat → Prop} (n : Nat) (h : ∀ i, i < n → ∃ d : Rat, 0 < d ∧ ∀ x y, x ≤ y → y - x < d → P i x y) : ∃ d : Rat, 0 < d ∧ ∀ i, i < n → ∀ x y, x ≤ y → y - x < d → P i x y := by
  induction n with
  | zero => exact ⟨1, by grind, fun i hi => by omega⟩
  | succ n ih =>
    obtain ⟨d, hd, h1⟩ := ih (fun i hi => h i (by omega))
    obtain ⟨e, he, h2⟩ := h n (by omega)
    obtain ⟨c, hc, c1, c2⟩ := min_pos hd he
    refine ⟨c, hc, fun i hi x y hxy hl => ?_⟩
    by_cases hin : i = n
    · subst hin; exact h2 x y hxy (by grind)
    · exact h1 i (by omega) x y hxy (by grind)
/-- a chain of signed rests: ends with 1 -/
def chn (k : Nat → Rat → Rat) (m : Nat) (a c : Nat → Rat) (g : Nat → Rat → Rat) : Prop := (∀ i, i ≤ m → lp (k i)) ∧ (∀ i, i + 2 ≤ m → lp (g i)) ∧ (∀ i, i + 2 ≤ m → 0 < a i) ∧ (∀ i, i + 2 ≤ m → 0 < c i) ∧ (∀ i, i + 2 ≤ m → ∀ x, a i * k i x + c i * k (i + 2) x = g i x * k (i + 1) x) ∧ ∀ x, k m x = 1
theorem chn.kl {k : Nat → Rat → Rat} {m : Nat} {a c : Nat → Rat} {g : Nat → Rat → Rat} (h : chn k m a c g) : ∀ i, i ≤ m → lp (k i) := h.1
theorem chn.gl {k : Nat → Rat → Rat} {m : Nat} {a c : Nat → Rat} {g : Nat → Rat → Rat} (h : chn k m a c g) : ∀ i, i + 2 ≤ m → lp (g i) := h.2.1
theorem chn.ap {k : Nat → Rat → Rat} {m : Nat} {a c : Nat → Rat} {g : Nat → Rat → Rat} (h : chn k m a c g) : ∀ i, i + 2 ≤ m → 0 < a i := h.2.2.1
theorem chn.cp {k : Nat → Rat → Rat} {m : Nat} {a c : Nat → Rat} {g : Nat → Rat → Rat} (h : chn k m a c g) : ∀ i, i + 2 ≤ m → 0 < c i := h.2.2.2.1
theorem chn.rc {k : Nat → Rat → Rat} {m : Nat} {a c : Nat → Rat} {g : Nat → Rat → Rat} (h : chn k m a c g) : ∀ i, i + 2 ≤ m → ∀ x, a i * k i x + c i * k (i + 2) x = g i x * k (i + 1) x := h.2.2.2.2.1
theorem chn.en {k : Nat → Rat → Rat} {m : Nat} {a c : Nat → Rat} {g : Nat → Rat → Rat} (h : chn k m a c g) : ∀ x, k m x = 1 := h.2.2.2.2.2
theorem chn.bez {k : Nat → Rat → Rat} {m : Nat} {a c : Nat → Rat} {g : Nat → Rat → Rat} (h : chn k m a c g) : ∀ t i, i + 1 + t = m → ∃ u w : Rat → Rat, lp u ∧ lp w ∧ ∀ x, u x * k i x + w x * k (i + 1) x = 1 := by
  intro t
  induction t with
  | zero =>
    intro i hi
    refine ⟨fun _ => 0, fun _ => 1, lp.const _, lp.const _, fun x => ?_⟩
    rw [show i + 1 = m by omega, h.en]; grind
  | succ t ih =>
    intro i hi
    obtain ⟨u, w, hu, hw, e⟩ := ih (i + 1) (by omega)
    have hc := h.cp i (by omega)
    refine ⟨fun x => (-(a i / c i)) * w x, fun x => u x + (1 / c i) * (w x * g i x), lp.smul _ hw, hu.add ((hw.mul (h.gl i (by omega))).smul _), fun x => ?_⟩
    have e1 := e x
    have e2 := h.rc i (by omega) x
    have e3 : k (i + 2) x = (g i x * k (i + 1) x - a i * k i x) / c i := by grind
    rw [show i + 1 + 1 = i + 2 by omega, e3] at e1
    grind
/-- of two neighbours one keeps its sign, near by; where one does not, the next is not small -/
theorem near_one {f h u w : Rat → Rat} (hf : lp f) (hh : lp h) (hu : lp u) (hw : lp w) (e : ∀ x, u x * f x + w x * h x = 1) (B : Rat) : ∃ d ε : Rat, 0 < d ∧ 0 < ε ∧ ∀ x y, ab x B → ab y B → x ≤ y → y - x < d → ¬ keep f x y → keep h x y ∧ (ε ≤ h x ∨ h x ≤ -ε) := by
  obtain ⟨F, hF, f1, f2⟩ := hf B
  obtain ⟨H, hH, h1, h2⟩ := hh B
  obtain ⟨U, hU, u1, u2⟩ := hu B
  obtain ⟨W, hW, w1, w2⟩ := hw B
  have hd1 : 0 < 1 / (2 * (U * F)) := by
    rw [Rat.div_def]; have := Rat.mul_pos hU hF; exact Rat.mul_pos (by grind) (Rat.inv_pos.2 (by grind))
  have hd2 : 0 < 1 / (4 * (W * H)) := by
    rw [Rat.div_def]; have := Rat.mul_pos hW hH; exact Rat.mul_pos (by grind) (Rat.inv_pos.2 (by grind))
  obtain ⟨d, hd, d1, d2⟩ := min_pos hd1 hd2
  have he : 0 < 1 / (2 * W) := by
    rw [Rat.div_def]; exact Rat.mul_pos (by grind) (Rat.inv_pos.2 (by grind))
  refine ⟨d, 1 / (2 * W), hd, he, fun x y hx hy hxy hl hk => ?_⟩
  have hfx := (nokeep hk (f2 x y hx hy hxy)).1
  have huf := (u1 x hx).mul hfx
  -- U * (F * (y - x)) < 1/2
  have hs1 : U * (F * (y - x)) < 1 / 2 := by
    have hp := Rat.mul_pos hU hF
    have h3 : y - x < 1 / (2 * (U * F)) := by grind
    have h4 := Rat.mul_lt_mul_of_pos_right h3 hp
    have h5 : 1 / (2 * (U * F)) * (U * F) = 1 / 2 := by grind
    grind
  have hwh : 1 / 2 < w x * h x := by
    have := e x; unfold ab at huf; grind
  have hex : 1 / (2 * W) ≤ h x ∨ h x ≤ -(1 / (2 * W)) := by
    by_cases hc : 1 / (2 * W) ≤ h x ∨ h x ≤ -(1 / (2 * W))
    · exact hc
    · exfalso
      have : ab (h x) (1 / (2 * W)) := by unfold ab; grind
      have h6 := (w1 x hx).mul this
      have h7 : W * (1 / (2 * W)) = 1 / 2 := by grind
      unfold ab at h6
      grind
  refine ⟨?_, hex⟩
  have hhd := h2 x y hx hy hxy
  have hs2 : H * (y - x) < 1 / (2 * W) := by
    have h3 : y - x < 1 / (4 * (W * H)) := by grind
    have h4 := Rat.mul_lt_mul_of_pos_right h3 hH
    have h5 : 1 / (4 * (W * H)) * H = 1 / (2 * W) * (1 / 2) := by grind
    grind
  unfold keep
  unfold ab at hhd
  apply mul_pos_iff'.2
  rcases hex with hex | hex <;> grind
theorem pos_of_mul {a b : Rat} (ha : 0 < a) (h : 0 < a * b) : 0 < b := by
  by_cases hb : 0 < b
  · exact hb
  · have := Rat.mul_nonneg (show 0 ≤ a by grind) (show 0 ≤ -b by grind); grind
theorem opp_fin {a c ε p h z d : Rat} (ha : 0 < a) (hc : 0 < c) (hε : 0 < ε) (r : a * p + c * h = z) (hz : ab z d) (hd : d < c * ε) (k : ε ≤ h ∨ h ≤ -ε) : p * h < 0 := by
  unfold ab at hz
  rcases k with k | k
  · have h6 := Rat.mul_le_mul_of_nonneg_left k (show 0 ≤ c by grind)
    have h7 : 0 < a * (-p) := by grind
    have h8 := pos_of_mul ha h7
    have h9 := Rat.mul_pos h8 (show 0 < h by grind)
    clear h6 h7 r
    grind
  · have h6 := Rat.mul_le_mul_of_nonneg_left k (show 0 ≤ c by grind)
    have h7 : 0 < a * p := by grind
    have h8 := pos_of_mul ha h7
    have h9 := Rat.mul_pos h8 (show 0 < -h by grind)
    clear h6 h7 r
    grind
/-- where the middle one does not keep its sign, its neighbours have opposite ones -/
theorem near_opp {p f h u w g : Rat → Rat} {a c : Rat} (hf : lp f) (hh : lp h) (hu : lp u) (hw : lp w) (hg : lp g) (ha : 0 < a) (hc : 0 < c) (e : ∀ x, u x * f x + w x * h x = 1) (r : ∀ x, a * p x + c * h x = g x * f x) (B : Rat) : ∃ d : Rat, 0 < d ∧ ∀ x y, ab x B → ab y B → x ≤ y → y - x < d → ¬ keep f x y → keep h x y ∧ p x * h x < 0 := by
  obtain ⟨d, ε, hd, hε, h1⟩ := near_one hf hh hu hw e B
  obtain ⟨F, hF, f1, f2⟩ := hf B
  obtain ⟨G, hG, g1, g2⟩ := hg B
  have hp := Rat.mul_pos hG hF
  have hd1 : 0 < c * ε / (G * F) := by
    rw [Rat.div_def]; exact Rat.mul_pos (Rat.mul_pos hc hε) (Rat.inv_pos.2 hp)
  obtain ⟨d', hd', d1, d2⟩ := min_pos hd hd1
  refine ⟨d', hd', fun x y hx hy hxy hl hk => ?_⟩
  obtain ⟨k1, k2⟩ := h1 x y hx hy hxy (Std.lt_of_lt_of_le hl d1) hk
  refine ⟨k1, ?_⟩
  have hfx := (nokeep hk (f2 x y hx hy hxy)).1
  have hgf := (g1 x hx).mul hfx
  have hs1 : G * (F * (y - x)) < c * ε := by
    have h3 : y - x < c * ε / (G * F) := Std.lt_of_lt_of_le hl d2
    have h4 := Rat.mul_lt_mul_of_pos_right h3 hp
    have h5 : c * ε / (G * F) * (G * F) = c * ε := Rat.div_mul_cancel (by clear d2 h3 h4; grind)
    rw [h5] at h4
    clear d2 h3 h5
    grind
  exact opp_fin ha hc hε (r x) hgf hs1 k2
theorem keep.symm_x {f : Rat → Rat} {x y : Rat} (h : keep f x y) : keep f y x := by
  unfold keep at *; grind
theorem vr_cancel (a b x : Int) : a + x - (b + x) = a - b := by omega
/-- the signs of two neighbouring points: what the rows before the end lose is what the head loses -/
theorem vr_keep {s t : Nat → Int} {m : Nat} (hs : ∀ k, -1 ≤ s k ∧ s k ≤ 1) (ht : ∀ k, -1 ≤ t k ∧ t k ≤ 1)
    (h1 : ∀ i, i + 1 ≤ m → (s i = t i ∧ s i ≠ 0) ∨ (s (i + 1) = t (i + 1) ∧ s (i + 1) ≠ 0))
    (h2 : ∀ i, i + 2 ≤ m → ¬ (s (i + 1) = t (i + 1) ∧ s (i + 1) ≠ 0) → s i = - s (i + 2)) :
    ∀ j, j ≤ m → s j = t j ∧ s j ≠ 0 → (vr s (j + 1)).2 = s j ∧ (vr t (j + 1)).2 = s j ∧
      (vr s (j + 1)).1 - (vr t (j + 1)).1 = (if s 0 = t 0 ∧ s 0 ≠ 0 then 0 else (if s 0 = - s 1 ∧ s 0 ≠ 0 then 1 else 0) - (if t 0 = - s 1 ∧ t 0 ≠ 0 then 1 else 0)) := by
  intro j
  induction j using Nat.strongRecOn with
  | _ j ih =>
    intro hj hk
    match j, ih, hj, hk with
    | 0, _, _, hk =>
      have e0 : vr s 1 = (0, s 0) := by simp [vr, hk.2]; omega
      have e1 : vr t 1 = (0, t 0) := by simp [vr, hk.1 ▸ hk.2]; omega
      rw [e0, e1]; simp [hk]
    | 1, ih, hj, hk =>
      by_cases h0 : s 0 = t 0 ∧ s 0 ≠ 0
      · have := ih 0 (by omega) (by omega) h0
        rw [if_pos h0] at this ⊢
        obtain ⟨a1, a2, a3⟩ := this
        have ht1 : t 1 ≠ 0 := hk.1 ▸ hk.2
        rw [show vr s (1 + 1) = _ from (if_neg hk.2), show vr t (1 + 1) = _ from (if_neg ht1)]
        simp only [Nat.zero_add] at a1 a2 a3
        refine ⟨rfl, hk.1.symm, ?_⟩
        show (vr s 1).1 + _ - ((vr t 1).1 + _) = 0
        rw [a1, a2, ← hk.1]
        exact (vr_cancel _ _ _).trans a3
      · rw [if_neg h0]
        have ht1 : t 1 ≠ 0 := hk.1 ▸ hk.2
        rw [show vr s (1 + 1) = _ from (if_neg hk.2), show vr t (1 + 1) = _ from (if_neg ht1)]
        refine ⟨rfl, hk.1.symm, ?_⟩
        show (vr s 1).1 + _ - ((vr t 1).1 + _) = _
        have e0 : vr s 1 = (0, s 0) := by
          by_cases h : s 0 = 0
          · simp [vr, h]
          · simp [vr, h]; omega
        have e1 : vr t 1 = (0, t 0) := by
          by_cases h : t 0 = 0
          · simp [vr, h]
          · simp [vr, h]; omega
        rw [e0, e1, ← hk.1]
        have := hk.2
        have := hs 0
        have := hs 1
        have := ht 0
        simp only
        by_cases c1 : s 0 = -s 1 <;> by_cases c2 : t 0 = -s 1 <;> simp only [c1, c2, if_true, if_false, true_and, false_and] <;> first | omega | (have : -s 1 ≠ 0 := (by omega); simp [this])
    | j + 2, ih, hj, hk =>
      have ht1 : t (j + 2) ≠ 0 := hk.1 ▸ hk.2
      rw [show vr s (j + 2 + 1) = _ from (if_neg hk.2), show vr t (j + 2 + 1) = _ from (if_neg ht1)]
      by_cases h0 : s (j + 1) = t (j + 1) ∧ s (j + 1) ≠ 0
      · obtain ⟨a1, a2, a3⟩ := ih (j + 1) (by omega) (by omega) h0
        refine ⟨rfl, hk.1.symm, ?_⟩
        show (vr s (j + 1 + 1)).1 + _ - ((vr t (j + 1 + 1)).1 + _) = _
        rw [a1, a2, ← hk.1, ← a3]
        exact vr_cancel _ _ _
      · have h3 : s j = t j ∧ s j ≠ 0 := (h1 j (by omega)).resolve_right h0
        have h4 := h2 j (by omega) h0
        obtain ⟨a1, a2, a3⟩ := ih j (by omega) (by omega) h3
        refine ⟨rfl, hk.1.symm, ?_⟩
        show (vr s (j + 1 + 1)).1 + _ - ((vr t (j + 1 + 1)).1 + _) = _
        rw [← a3, ← hk.1]
        have b1 : (vr s (j + 1 + 1)).1 + (if (vr s (j + 1 + 1)).2 = -s (j + 2) then 1 else 0) = (vr s (j + 1)).1 + 1 := by
          have hh := hs (j + 1)
          have hh2 := hs j
          show (if s (j + 1) = 0 then vr s (j + 1) else ((vr s (j + 1)).1 + (if (vr s (j + 1)).2 = -(s (j + 1)) then 1 else 0), s (j + 1))).1 + (if (if s (j + 1) = 0 then vr s (j + 1) else ((vr s (j + 1)).1 + (if (vr s (j + 1)).2 = -(s (j + 1)) then 1 else 0), s (j + 1))).2 = _ then 1 else 0) = _
          by_cases hz : s (j + 1) = 0
          · rw [if_pos hz, a1]; simp; omega
          · rw [if_neg hz, a1]; simp only; by_cases c1 : s j = -s (j + 1) <;> by_cases c2 : s (j + 1) = -s (j + 2) <;> simp only [c1, c2, if_true, if_false] <;> omega
        have b2 : (vr t (j + 1 + 1)).1 + (if (vr t (j + 1 + 1)).2 = -s (j + 2) then 1 else 0) = (vr t (j + 1)).1 + 1 := by
          have hh := ht (j + 1)
          have hh2 := hs j
          show (if t (j + 1) = 0 then vr t (j + 1) else ((vr t (j + 1)).1 + (if (vr t (j + 1)).2 = -(t (j + 1)) then 1 else 0), t (j + 1))).1 + (if (if t (j + 1) = 0 then vr t (j + 1) else ((vr t (j + 1)).1 + (if (vr t (j + 1)).2 = -(t (j + 1)) then 1 else 0), t (j + 1))).2 = _ then 1 else 0) = _
          by_cases hz : t (j + 1) = 0
          · rw [if_pos hz, a2]; simp; omega
          · rw [if_neg hz, a2]; simp only; by_cases c1 : s j = -t (j + 1) <;> by_cases c2 : t (j + 1) = -s (j + 2) <;> simp only [c1, c2, if_true, if_false] <;> omega
        rw [b1, b2]; exact vr_cancel _ _ _
/-- how often the sign changes along the chain 0 .. m at x -/
def vx (k : Nat → Rat → Rat) (m : Nat) (x : Rat) : Int := (vr (fun i => sgr (k i x)) (m + 1)).1
theorem sgr_b (x : Rat) : -1 ≤ sgr x ∧ sgr x ≤ 1 := by
  rcases sgr_r x with h | h | h <;> omega
theorem sgr_opp {a b : Rat} (h : a * b < 0) : sgr a = - sgr b := by
  have h1 : 0 < a * (-b) := by grind
  rcases mul_pos_iff'.1 h1 with ⟨h2, h3⟩ | ⟨h2, h3⟩ <;> rcases sgr_r a with g | g | g <;> rcases sgr_r b with k | k | k <;> grind
theorem keep_of_sg {f : Rat → Rat} {x y : Rat} (h : sgr (f x) = sgr (f y) ∧ sgr (f x) ≠ 0) : keep f x y := by
  unfold keep
  apply mul_pos_iff'.2
  rcases sgr_r (f x) with g | g | g <;> rcases sgr_r (f y) with k | k | k <;> grind
/-- near by, a chain loses what its head loses -/
theorem chn.loc {k : Nat → Rat → Rat} {m : Nat} {a c : Nat → Rat} {g : Nat → Rat → Rat} (h : chn k m a c g) (B : Rat) : ∃ d : Rat, 0 < d ∧ ∀ x y, ab x B → ab y B → x ≤ y → y - x < d → (keep (k 0) x y → vx k m x = vx k m y) ∧ (¬ keep (k 0) x y → keep (k 1) x y ∧ 1 ≤ m ∧ vx k m x - vx k m y = (if sgr (k 0 x) = - sgr (k 1 x) ∧ sgr (k 0 x) ≠ 0 then 1 else 0) - (if sgr (k 0 y) = - sgr (k 1 x) ∧ sgr (k 0 y) ≠ 0 then 1 else 0)) := by
  obtain ⟨d1, hd1, n1⟩ := near_all (P := fun i x y => ab x B → ab y B → ¬ keep (k i) x y → keep (k (i + 1)) x y) m (fun i hi => by
    obtain ⟨u, w, hu, hw, e⟩ := h.bez (m - (i + 1)) i (by omega)
    obtain ⟨d, ε, hd, hε, h1⟩ := near_one (h.kl i (by omega)) (h.kl (i + 1) (by omega)) hu hw e B
    exact ⟨d, hd, fun x y hxy hl hx hy hk => (h1 x y hx hy hxy hl hk).1⟩)
  obtain ⟨d2, hd2, n2⟩ := near_all (P := fun i x y => ab x B → ab y B → ¬ keep (k (i + 1)) x y → k i x * k (i + 2) x < 0) (m - 1) (fun i hi => by
    obtain ⟨u, w, hu, hw, e⟩ := h.bez (m - (i + 2)) (i + 1) (by omega)
    obtain ⟨d, hd, h1⟩ := near_opp (h.kl (i + 1) (by omega)) (h.kl (i + 1 + 1) (by omega)) hu hw (h.gl i (by omega)) (h.ap i (by omega)) (h.cp i (by omega)) e (h.rc i (by omega)) B
    exact ⟨d, hd, fun x y hxy hl hx hy hk => (h1 x y hx hy hxy hl hk).2⟩)
  obtain ⟨d, hd, e1, e2⟩ := min_pos hd1 hd2
  refine ⟨d, hd, fun x y hx hy hxy hl => ?_⟩
  have l1 := Std.lt_of_lt_of_le hl e1
  have l2 := Std.lt_of_lt_of_le hl e2
  have key := vr_keep (s := fun i => sgr (k i x)) (t := fun i => sgr (k i y)) (m := m) (fun i => sgr_b _) (fun i => sgr_b _) (fun i hi => by
      by_cases hk : keep (k i) x y
      · exact Or.inl hk.sg
      · exact Or.inr (n1 i (by omega) x y hxy l1 hx hy hk).sg) (fun i hi hk => by
      exact sgr_opp (n2 i (by omega) x y hxy l2 hx hy (fun hk' => hk hk'.sg))) m (Nat.le_refl _) (by
      refine keep.sg (f := k m) ?_
      unfold keep; rw [h.en, h.en]; grind)
  obtain ⟨_, _, key⟩ := key
  constructor
  · intro hk
    rw [if_pos hk.sg] at key
    unfold vx; omega
  · intro hk
    have hm : 1 ≤ m := by
      rcases Nat.eq_zero_or_pos m with h0 | h0
      · exfalso; apply hk; subst h0; unfold keep; rw [h.en, h.en]; grind
      · exact h0
    refine ⟨n1 0 (by omega) x y hxy l1 hx hy hk, hm, ?_⟩
    rw [if_neg (fun h' => hk (keep_of_sg h'))] at key
    exact key
/-- f has the slope f1 everywhere, and what is left is of second order -/
def df (f f1 : Rat → Rat) : Prop := ∀ B : Rat, ∃ M : Rat, 0 < M ∧ ∀ x y, ab x B → ab y B → x ≤ y → ab (f y - f x - (y - x) * f1 x) (M * ((y - x) * (y - x)))
theorem df.const (a : Rat) : df (fun _ => a) (fun _ => 0) := fun B => ⟨1, by grind, fun x y _ _ h => by
  have := Rat.mul_nonneg (show 0 ≤ y - x by grind) (show 0 ≤ y - x by grind)
  unfold ab; grind⟩
theorem df.id : df (fun x => x) (fun _ => 1) := fun B => ⟨1, by grind, fun x y _ _ h => by
  have := Rat.mul_nonneg (show 0 ≤ y - x by grind) (show 0 ≤ y - x by grind)
  unfold ab; grind⟩
theorem df.add {f g f1 g1 : Rat → Rat} (hf : df f f1) (hg : df g g1) : df (fun x => f x + g x) (fun x => f1 x + g1 x) := fun B => by
  obtain ⟨M, hM, h1⟩ := hf B
  obtain ⟨N, hN, h2⟩ := hg B
  refine ⟨M + N, by grind, fun x y hx hy h => ?_⟩
  have := (h1 x y hx hy h).add (h2 x y hx hy h)
  rw [show f y + g y - (f x + g x) - (y - x) * (f1 x + g1 x) = f y - f x - (y - x) * f1 x + (g y - g x - (y - x) * g1 x) by grind, show (M + N) * ((y - x) * (y - x)) = M * ((y - x) * (y - x)) + N * ((y - x) * (y - x)) by grind]
  exact this
theorem df.mul {f g f1 g1 : Rat → Rat} (hf : df f f1) (hg : df g g1) (lf : lp f) (lg : lp g) : df (fun x => f x * g x) (fun x => f1 x * g x + f x * g1 x) := fun B => by
  obtain ⟨M, hM, h1⟩ := hf B
  obtain ⟨N, hN, h2⟩ := hg B
  obtain ⟨F, hF, f1', f2⟩ := lf B
  obtain ⟨G, hG, g1', g2⟩ := lg B
  have p1 := Rat.mul_pos hM hG
  have p2 := Rat.mul_pos hF hN
  have p3 := Rat.mul_pos hF hG
  refine ⟨M * G + F * N + F * G, by grind, fun x y hx hy h => ?_⟩
  -- f y g y - f x g x - (y-x)(f1 x g x + f x g1 x) = (f y - f x - (y-x) f1 x) g x + f x (g y - g x - (y-x) g1 x) + (f y - f x) (g y - g x)
  have a1 := (h1 x y hx hy h).mul (g1' x hx)
  have a2 := (f1' x hx).mul (h2 x y hx hy h)
  have a3 := (f2 x y hx hy h).mul (g2 x y hx hy h)
  have := (a1.add a2).add a3
  rw [show f y * g y - f x * g x - (y - x) * (f1 x * g x + f x * g1 x) = (f y - f x - (y - x) * f1 x) * g x + f x * (g y - g x - (y - x) * g1 x) + (f y - f x) * (g y - g x) by grind,
    show (M * G + F * N + F * G) * ((y - x) * (y - x)) = M * ((y - x) * (y - x)) * G + F * (N * ((y - x) * (y - x))) + F * (y - x) * (G * (y - x)) by grind]
  exact this
theorem df.congr {f g f1 g1 : Rat → Rat} (hf : df f f1) (h : ∀ x, g x = f x) (h1 : ∀ x, g1 x = f1 x) : df g g1 := by
  rw [show g = f from funext h, show g1 = f1 from funext h1]; exact hf
theorem df.smul {f f1 : Rat → Rat} (a : Rat) (hf : df f f1) (lf : lp f) : df (fun x => a * f x) (fun x => a * f1 x) :=
  ((df.const a).mul hf (lp.const a) lf).congr (fun _ => rfl) (fun x => by grind)
/-- a function that rises (falls) where its slope is not small -/
theorem df.rise {f f1 : Rat → Rat} (h : df f f1) {ε : Rat} (hε : 0 < ε) (B : Rat) : ∃ d : Rat, 0 < d ∧ ∀ x y, ab x B → ab y B → x < y → y - x < d → (ε ≤ f1 x → f x < f y) ∧ (f1 x ≤ -ε → f y < f x) := by
  obtain ⟨M, hM, h1⟩ := h B
  have hd : 0 < ε / M := by rw [Rat.div_def]; exact Rat.mul_pos hε (Rat.inv_pos.2 hM)
  refine ⟨ε / M, hd, fun x y hx hy hxy hl => ?_⟩
  have h2 := h1 x y hx hy (by grind)
  have h3 : M * (y - x) < ε := by
    have h4 := Rat.mul_lt_mul_of_pos_left hl hM
    have h5 : M * (ε / M) = ε := by clear h4 hl hd; grind
    rw [h5] at h4; exact h4
  clear hl hd
  have hp : 0 < y - x := by grind
  have h6 : M * ((y - x) * (y - x)) < ε * (y - x) := by
    have := Rat.mul_lt_mul_of_pos_right h3 hp
    grind
  unfold ab at h2
  constructor
  · intro h7
    have := Rat.mul_le_mul_of_nonneg_left h7 (show 0 ≤ y - x by grind)
    grind
  · intro h7
    have := Rat.mul_le_mul_of_nonneg_left h7 (show 0 ≤ y - x by grind)
    grind
