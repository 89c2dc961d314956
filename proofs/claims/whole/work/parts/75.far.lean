/-- with a slope -/
def sm (f : Rat → Rat) : Prop := lp f ∧ ∃ f1, df f f1 ∧ lp f1
theorem sm.const (a : Rat) : sm (fun _ => a) := ⟨lp.const a, _, df.const a, lp.const 0⟩
theorem sm.add {f g : Rat → Rat} (hf : sm f) (hg : sm g) : sm (fun x => f x + g x) := by
  obtain ⟨h1, f1, h2, h3⟩ := hf
  obtain ⟨k1, g1, k2, k3⟩ := hg
  exact ⟨h1.add k1, _, h2.add k2, h3.add k3⟩
theorem sm.mul {f g : Rat → Rat} (hf : sm f) (hg : sm g) : sm (fun x => f x * g x) := by
  obtain ⟨h1, f1, h2, h3⟩ := hf
  obtain ⟨k1, g1, k2, k3⟩ := hg
  exact ⟨h1.mul k1, _, h2.mul k2 h1 k1, (h3.mul k1).add (h1.mul k3)⟩
theorem sm.congr {f g : Rat → Rat} (hf : sm f) (h : ∀ x, g x = f x) : sm g := by
  rw [show g = f from funext h]; exact hf
theorem sm.ev (P : Nat → Int) (n : Nat) : sm (ev P n) := ⟨ev_lp P n, _, ev_df P n, ev_lp _ _⟩
/-- the chain over its last link, from the end -/
def kt (a c : Nat → Rat) (g : Nat → Rat → Rat) (gl : Rat → Rat) (m : Nat) : Nat → Rat → Rat
  | 0, _ => 1
  | 1, x => gl x
  | t + 2, x => (1 / a (m - (t + 2))) * (g (m - (t + 2)) x * kt a c g gl m (t + 1) x + (- c (m - (t + 2))) * kt a c g gl m t x)
theorem kt_sm {a c : Nat → Rat} {g : Nat → Rat → Rat} {gl : Rat → Rat} {m : Nat} (hg : ∀ i, i + 2 ≤ m → sm (g i)) (hl : sm gl) : ∀ t, t ≤ m → sm (kt a c g gl m t)
  | 0, _ => (sm.const 1).congr (fun x => by unfold kt; rfl)
  | 1, _ => hl.congr (fun x => by unfold kt; rfl)
  | t + 2, h => ((sm.const (1 / a (m - (t + 2)))).mul (((hg (m - (t + 2)) (by omega)).mul (kt_sm (a := a) (c := c) hg hl (t + 1) (by omega))).add ((sm.const (- c (m - (t + 2)))).mul (kt_sm (a := a) (c := c) hg hl t (by omega))))).congr (fun x => by rw [kt])
theorem kt_f {a c : Nat → Rat} {g f : Nat → Rat → Rat} {gl : Rat → Rat} {m : Nat} (ha : ∀ i, i + 2 ≤ m → 0 < a i) (hr : ∀ i, i + 2 ≤ m → ∀ x, a i * f i x + c i * f (i + 2) x = g i x * f (i + 1) x) (hl : 1 ≤ m → ∀ x, f (m - 1) x = gl x * f m x) : ∀ t, t ≤ m → ∀ x, f (m - t) x = f m x * kt a c g gl m t x
  | 0, _, x => by unfold kt; grind
  | 1, h, x => by rw [hl h x]; unfold kt; grind
  | t + 2, h, x => by
    have h1 := kt_f ha hr hl (t + 1) (by omega) x
    have h2 := kt_f ha hr hl t (by omega) x
    have h3 := hr (m - (t + 2)) (by omega) x
    have h4 := ha (m - (t + 2)) (by omega)
    rw [show m - (t + 2) + 2 = m - t by omega, show m - (t + 2) + 1 = m - (t + 1) by omega, h1, h2] at h3
    rw [kt]
    generalize kt a c g gl m (t + 1) x = A at *
    generalize kt a c g gl m t x = D at *
    generalize f m x = E at *
    generalize g (m - (t + 2)) x = G at *
    have : a (m - (t + 2)) ≠ 0 := by grind
    grind
/-- every chain is its last link times one that ends with 1 -/
theorem mk_chn {a c : Nat → Rat} {g f : Nat → Rat → Rat} {gl : Rat → Rat} {m : Nat} (ha : ∀ i, i + 2 ≤ m → 0 < a i) (hc : ∀ i, i + 2 ≤ m → 0 < c i) (hg : ∀ i, i + 2 ≤ m → sm (g i)) (hgl : sm gl) (hr : ∀ i, i + 2 ≤ m → ∀ x, a i * f i x + c i * f (i + 2) x = g i x * f (i + 1) x) (hl : 1 ≤ m → ∀ x, f (m - 1) x = gl x * f m x) : ∃ k : Nat → Rat → Rat, chn k m a c g ∧ (∀ i, i ≤ m → sm (k i)) ∧ ∀ i, i ≤ m → ∀ x, f i x = f m x * k i x := by
  refine ⟨fun i => kt a c g gl m (m - i), ⟨fun i _ => (kt_sm hg hgl _ (by omega)).1, fun i h => (hg i h).1, ha, hc, fun i h x => ?_, fun x => ?_⟩, fun i _ => kt_sm hg hgl _ (by omega), fun i h x => ?_⟩
  · show a i * kt a c g gl m (m - i) x + c i * kt a c g gl m (m - (i + 2)) x = g i x * kt a c g gl m (m - (i + 1)) x
    obtain ⟨t, ht⟩ : ∃ t, m - i = t + 2 := ⟨m - i - 2, by omega⟩
    rw [ht, kt, show m - (i + 2) = t by omega, show m - (i + 1) = t + 1 by omega, show m - (t + 2) = i by omega]
    have := ha i h
    have : a i ≠ 0 := by grind
    generalize kt a c g gl m (t + 1) x = A at *
    generalize kt a c g gl m t x = D at *
    grind
  · show kt a c g gl m (m - m) x = 1
    rw [Nat.sub_self]; unfold kt; rfl
  · show f i x = f m x * kt a c g gl m (m - i) x
    have := kt_f ha hr hl (m - i) (by omega) x
    rw [show m - (m - i) = i by omega] at this
    exact this
theorem vr_neg {s t : Nat → Int} {σ : Int} (hσ : σ = 1 ∨ σ = -1) {n : Nat} (h : ∀ i, i < n → t i = σ * s i) : (vr t n).1 = (vr s n).1 ∧ (vr t n).2 = σ * (vr s n).2 := by
  induction n with
  | zero => exact ⟨rfl, by simp [vr]⟩
  | succ n ih =>
    obtain ⟨h1, h2⟩ := ih (fun i hi => h i (by omega))
    have h3 := h n (by omega)
    simp only [vr]
    by_cases h0 : s n = 0
    · rw [if_pos h0, if_pos (by rw [h3, h0]; omega)]; exact ⟨h1, h2⟩
    · rw [if_neg h0, if_neg (by rcases hσ with e | e <;> subst e <;> omega)]
      refine ⟨?_, h3⟩
      show (vr t n).1 + _ = (vr s n).1 + _
      rw [h1, h2, h3]
      congr 1
      rcases hσ with e | e <;> subst e
      · simp
      · by_cases hc : (vr s n).2 = - s n
        · rw [if_pos hc, if_pos (by omega)]
        · rw [if_neg hc, if_neg (by omega)]
theorem sgr_m (a b : Rat) : sgr (a * b) = sgr a * sgr b := by
  rcases sgr_r a with h | h | h
  · have h1 := sgr_pos_mul (b := -b) (show 0 < -a by grind)
    rw [show -a * -b = a * b by grind] at h1
    rw [h1, h.1]
    rcases sgr_r b with g | g | g <;> rcases sgr_r (-b) with k | k | k <;> grind
  · rw [h.2, show (0 : Rat) * b = 0 by grind]
    rw [show sgr 0 = 0 from rfl]; omega
  · rw [sgr_pos_mul h.2, h.1]; omega
theorem vx_fac {k f : Nat → Rat → Rat} {d : Rat} {m : Nat} {x : Rat} (hd : d ≠ 0) (h : ∀ i, i ≤ m → f i x = d * k i x) : vx f m x = vx k m x := by
  unfold vx
  have hσ : sgr d = 1 ∨ sgr d = -1 := by rcases sgr_r d with g | g | g <;> grind
  exact (vr_neg hσ (fun i hi => by show sgr (f i x) = _; rw [h i (by omega), sgr_m])).1
/-- far out the top coefficient decides -/
theorem ev_far {P : Nat → Int} {H x : Rat} (hH : ∀ k, ab (P k) H) (hx : 1 + H ≤ x) : ∀ n, ab (ev P n x) (x ^ n - 1)
  | 0 => by simp only [ev]; unfold ab; grind
  | n + 1 => by
    have ih := ev_far hH hx n
    have h0 := (hH 0).nn
    have hp : 0 < x ^ n := Rat.pow_pos (by grind)
    show ab (ev P n x + P n * x ^ n) (x ^ (n + 1) - 1)
    have h1 : ab (P n * x ^ n) (H * x ^ n) := (hH n).mul (show ab (x ^ n) (x ^ n) by unfold ab; grind)
    have h2 := ih.add h1
    refine h2.le ?_
    rw [Rat.pow_succ]
    have := Rat.mul_le_mul_of_nonneg_right (show H ≤ x - 1 by grind) (show 0 ≤ x ^ n by grind)
    grind
theorem ev_top {P : Nat → Int} {H x : Rat} (hH : ∀ k, ab (P k) H) (hx : 1 + H ≤ x) {n : Nat} (hP : P n ≠ 0) : sgr (ev P (n + 1) x) = (P n).sign := by
  have h0 := (hH 0).nn
  have h1 := ev_far hH hx n
  have hp : 0 < x ^ n := Rat.pow_pos (by grind)
  have e : ev P (n + 1) x = ev P n x + P n * x ^ n := rfl
  unfold ab at h1
  have hs := sgr_r (ev P (n + 1) x)
  rcases Int.lt_trichotomy (P n) 0 with g | g | g
  · rw [Int.sign_eq_neg_one_of_neg g]
    have h2 : ((P n : Int) : Rat) ≤ -1 := by
      have h3 : P n ≤ (-1 : Int) := by omega
      have h4 := Rat.intCast_le_intCast.2 h3
      rw [show (((-1 : Int) : Int) : Rat) = -1 by rfl] at h4
      exact h4
    have := Rat.mul_le_mul_of_nonneg_right h2 (show 0 ≤ x ^ n by grind)
    grind
  · exact absurd g hP
  · rw [Int.sign_eq_one_of_pos g]
    have h2 : (1 : Rat) ≤ (P n : Int) := by
      have : 1 ≤ P n := by omega
      exact_mod_cast this
    have := Rat.mul_le_mul_of_nonneg_right h2 (show 0 ≤ x ^ n by grind)
    grind
theorem neg_pow (x : Rat) : ∀ n : Nat, (-x) ^ n = (if n % 2 = 0 then 1 else -1) * x ^ n
  | 0 => by grind
  | n + 1 => by
    rw [Rat.pow_succ, Rat.pow_succ, neg_pow x n]
    rcases Nat.mod_two_eq_zero_or_one n with h | h
    · rw [if_pos h, if_neg (by omega)]; grind
    · rw [if_neg (by omega), if_pos (by omega)]; grind
/-- turned at 0 -/
def tP (P : Nat → Int) (k : Nat) : Int := if k % 2 = 0 then P k else - P k
theorem ev_turn (P : Nat → Int) (x : Rat) : ∀ n, ev P n (-x) = ev (tP P) n x
  | 0 => rfl
  | n + 1 => by
    show ev P n (-x) + P n * (-x) ^ n = ev (tP P) n x + ((tP P n : Int) : Rat) * x ^ n
    rw [ev_turn P x n, neg_pow]
    unfold tP
    by_cases h : n % 2 = 0
    · rw [if_pos h, if_pos h]; grind
    · rw [if_neg h, if_neg h]; push_cast; grind
theorem ev_bot {P : Nat → Int} {H x : Rat} (hH : ∀ k, ab (P k) H) (hx : x ≤ -(1 + H)) {n : Nat} (hP : P n ≠ 0) : sgr (ev P (n + 1) x) = (if n % 2 = 0 then (P n).sign else - (P n).sign) := by
  have h1 := ev_turn P (-x) (n + 1)
  rw [show - -x = x by grind] at h1
  have hT : ∀ k, ab (tP P k) H := fun k => by
    have := hH k
    unfold tP
    split
    · exact this
    · push_cast; exact this.neg
  have hn : tP P n ≠ 0 := by unfold tP; split <;> omega
  rw [h1, ev_top hT (by grind) hn]
  unfold tP
  split
  · rfl
  · rw [Int.sign_neg]
/-- a bound for the first coefficients -/
theorem ab_all (P : Nat → Int) : ∀ n, ∃ H : Rat, 0 < H ∧ ∀ k, k < n → ab (P k) H
  | 0 => ⟨1, by grind, fun k hk => by omega⟩
  | n + 1 => by
    obtain ⟨H, hH, h⟩ := ab_all P n
    obtain ⟨b, hb, hab⟩ := ab.self (P n : Rat)
    refine ⟨H + b, by grind, fun k hk => ?_⟩
    by_cases e : k = n
    · subst e; exact hab.le (by grind)
    · exact (h k (by omega)).le (by grind)
