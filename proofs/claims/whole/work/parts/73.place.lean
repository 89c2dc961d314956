/-- a place: ever smaller stretches around it -/
def pla (br : Rat → Rat → Prop) : Prop := (∀ x y, br x y → x < y) ∧ (∀ x y x' y', br x y → br x' y' → ∃ u v, br u v ∧ x ≤ u ∧ v ≤ y ∧ x' ≤ u ∧ v ≤ y') ∧ (∀ w : Rat, 0 < w → ∃ x y, br x y ∧ y - x < w) ∧ ∃ B, ∀ x y, br x y → ab x B ∧ ab y B
/-- g is 0 at the place -/
def vz (br : Rat → Rat → Prop) (g : Rat → Rat) : Prop := ∀ ε : Rat, 0 < ε → ∃ x y, br x y ∧ ∀ t, x ≤ t → t ≤ y → ab (g t) ε
/-- g has the sign σ at the place -/
def sa (br : Rat → Rat → Prop) (g : Rat → Rat) (σ : Int) : Prop := ∃ x y, br x y ∧ ∃ ε : Rat, 0 < ε ∧ ∀ t, x ≤ t → t ≤ y → ε ≤ σ * g t
section
variable {br : Rat → Rat → Prop}
theorem vz.excl (hp : pla br) {g : Rat → Rat} (h : vz br g) {σ : Int} (hσ : σ = 1 ∨ σ = -1) : ¬ sa br g σ := by
  rintro ⟨x, y, h1, ε, hε, h2⟩
  obtain ⟨x', y', h3, h4⟩ := h (ε / 2) (by grind)
  obtain ⟨u, v, h5, a, b, c, d⟩ := hp.2.1 x y x' y' h1 h3
  have huv := hp.1 u v h5
  have e1 := h2 u a (by grind)
  have e2 := h4 u c (by grind)
  unfold ab at e2
  rcases hσ with e | e <;> subst e <;> grind
theorem sa.excl (hp : pla br) {g : Rat → Rat} (h : sa br g 1) : ¬ sa br g (-1) := by
  rintro ⟨x, y, h1, ε, hε, h2⟩
  obtain ⟨x', y', h3, ε', hε', h4⟩ := h
  obtain ⟨u, v, h5, a, b, c, d⟩ := hp.2.1 x y x' y' h1 h3
  have huv := hp.1 u v h5
  have e1 := h2 u a (by grind)
  have e2 := h4 u c (by grind)
  grind
/-- a stretch on which g is nearly the same -/
theorem pla.close (hp : pla br) {g : Rat → Rat} (hg : lp g) {ε : Rat} (hε : 0 < ε) : ∃ w : Rat, 0 < w ∧ ∀ x y, br x y → y - x < w → ∀ t u, x ≤ t → t ≤ y → x ≤ u → u ≤ y → ab (g t - g u) ε := by
  obtain ⟨B, hB⟩ := hp.2.2.2
  obtain ⟨M, hM, m1, m2⟩ := hg B
  have hd : 0 < ε / M := by rw [Rat.div_def]; exact Rat.mul_pos hε (Rat.inv_pos.2 hM)
  refine ⟨ε / M, hd, fun x y hb hl t u t1 t2 u1 u2 => ?_⟩
  have hx := (hB x y hb).1
  have hy := (hB x y hb).2
  have h5 : M * (y - x) < ε := by
    have h4 := Rat.mul_lt_mul_of_pos_left hl hM
    have h5 : M * (ε / M) = ε := by clear h4 hl hd; grind
    rw [h5] at h4; exact h4
  clear hl hd
  have ht := ab_mid hx hy t1 t2
  have hu := ab_mid hx hy u1 u2
  by_cases h : u ≤ t
  · have h6 := m2 u t hu ht h
    have h7 := Rat.mul_le_mul_of_nonneg_left (show t - u ≤ y - x by grind) (show 0 ≤ M by grind)
    exact h6.le (by grind)
  · have h6 := (m2 t u ht hu (by grind)).neg
    have h7 := Rat.mul_le_mul_of_nonneg_left (show u - t ≤ y - x by grind) (show 0 ≤ M by grind)
    have h8 := h6.le (show M * (u - t) ≤ ε by grind)
    rw [show -(g u - g t) = g t - g u by grind] at h8
    exact h8
theorem pla.tri (hp : pla br) {g : Rat → Rat} (hg : lp g) : vz br g ∨ sa br g 1 ∨ sa br g (-1) := by
  by_cases hv : vz br g
  · exact Or.inl hv
  · right
    unfold vz at hv
    have : ∃ ε : Rat, 0 < ε ∧ ∀ x y, br x y → ∃ t, x ≤ t ∧ t ≤ y ∧ ¬ ab (g t) ε := by
      refine Classical.byContradiction (fun hc => hv (fun ε hε => ?_))
      refine Classical.byContradiction (fun hc2 => hc ⟨ε, hε, fun x y hb => ?_⟩)
      refine Classical.byContradiction (fun hc3 => hc2 ⟨x, y, hb, fun t t1 t2 => ?_⟩)
      exact Classical.byContradiction (fun hc4 => hc3 ⟨t, t1, t2, hc4⟩)
    obtain ⟨ε, hε, h1⟩ := this
    obtain ⟨w, hw, h2⟩ := hp.close hg (show 0 < ε / 2 by grind)
    obtain ⟨x, y, hb, hl⟩ := hp.2.2.1 w hw
    obtain ⟨t, t1, t2, h3⟩ := h1 x y hb
    have h4 := h2 x y hb hl
    by_cases hpos : 0 < g t
    · left
      refine ⟨x, y, hb, ε / 2, by grind, fun u u1 u2 => ?_⟩
      have := h4 u t u1 u2 t1 t2
      unfold ab at *
      grind
    · right
      refine ⟨x, y, hb, ε / 2, by grind, fun u u1 u2 => ?_⟩
      have := h4 u t u1 u2 t1 t2
      unfold ab at *
      grind
theorem vz.add (hp : pla br) {f g : Rat → Rat} (hf : vz br f) (hg : vz br g) : vz br (fun x => f x + g x) := by
  intro ε hε
  obtain ⟨x, y, h1, h2⟩ := hf (ε / 2) (by grind)
  obtain ⟨x', y', h3, h4⟩ := hg (ε / 2) (by grind)
  obtain ⟨u, v, h5, a, b, c, d⟩ := hp.2.1 x y x' y' h1 h3
  refine ⟨u, v, h5, fun t t1 t2 => ?_⟩
  exact ((h2 t (by grind) (by grind)).add (h4 t (by grind) (by grind))).le (by grind)
theorem vz.mul (hp : pla br) {f g : Rat → Rat} (hf : vz br f) (hg : lp g) : vz br (fun x => f x * g x) := by
  intro ε hε
  obtain ⟨B, hB⟩ := hp.2.2.2
  obtain ⟨M, hM, m1, m2⟩ := hg B
  have hd : 0 < ε / M := by rw [Rat.div_def]; exact Rat.mul_pos hε (Rat.inv_pos.2 hM)
  obtain ⟨x, y, h1, h2⟩ := hf (ε / M) hd
  refine ⟨x, y, h1, fun t t1 t2 => ?_⟩
  have h3 := (h2 t t1 t2).mul (m1 t (ab_mid (hB x y h1).1 (hB x y h1).2 t1 t2))
  rw [show ε / M * M = ε from Rat.div_mul_cancel (by clear hd h2 h3; grind)] at h3
  exact h3
theorem vz.congr {f g : Rat → Rat} (h : vz br f) (e : ∀ x, g x = f x) : vz br g := by
  rw [show g = f from funext e]; exact h
theorem sa.congr {f g : Rat → Rat} {σ : Int} (h : sa br f σ) (e : ∀ x, g x = f x) : sa br g σ := by
  rw [show g = f from funext e]; exact h
theorem sa.mul (hp : pla br) {f g : Rat → Rat} {σ τ : Int} (hf : sa br f σ) (hg : sa br g τ) : sa br (fun x => f x * g x) (σ * τ) := by
  obtain ⟨x, y, h1, ε, hε, h2⟩ := hf
  obtain ⟨x', y', h3, ε', hε', h4⟩ := hg
  obtain ⟨u, v, h5, a, b, c, d⟩ := hp.2.1 x y x' y' h1 h3
  refine ⟨u, v, h5, ε * ε', Rat.mul_pos hε hε', fun t t1 t2 => ?_⟩
  have e1 := h2 t (by grind) (by grind)
  have e2 := h4 t (by grind) (by grind)
  have e3 := Rat.mul_le_mul_of_nonneg_right e1 (show 0 ≤ ε' by grind)
  have e4 := Rat.mul_le_mul_of_nonneg_left e2 (show 0 ≤ σ * f t by grind)
  have e5 : ((σ * τ : Int) : Rat) = σ * τ := by push_cast; rfl
  rw [e5]; grind
theorem sa.addz (hp : pla br) {f g : Rat → Rat} {σ : Int} (hσ : σ = 1 ∨ σ = -1) (hf : sa br f σ) (hg : vz br g) : sa br (fun x => f x + g x) σ := by
  obtain ⟨x, y, h1, ε, hε, h2⟩ := hf
  obtain ⟨x', y', h3, h4⟩ := hg (ε / 2) (by grind)
  obtain ⟨u, v, h5, a, b, c, d⟩ := hp.2.1 x y x' y' h1 h3
  refine ⟨u, v, h5, ε / 2, by grind, fun t t1 t2 => ?_⟩
  have e1 := h2 t (by grind) (by grind)
  have e2 := h4 t (by grind) (by grind)
  unfold ab at e2
  rcases hσ with e | e <;> subst e <;> grind
/-- not 0 at the place -/
def nz (br : Rat → Rat → Prop) (g : Rat → Rat) : Prop := sa br g 1 ∨ sa br g (-1)
theorem nz.not (hp : pla br) {g : Rat → Rat} (h : nz br g) : ¬ vz br g := fun h' => by
  rcases h with h | h
  · exact h'.excl hp (Or.inl rfl) h
  · exact h'.excl hp (Or.inr rfl) h
theorem nz.mul (hp : pla br) {f g : Rat → Rat} (hf : nz br f) (hg : nz br g) : nz br (fun x => f x * g x) := by
  rcases hf with h | h <;> rcases hg with k | k <;> have e := h.mul hp k
  · rw [show (1 : Int) * 1 = 1 by decide] at e; exact Or.inl e
  · rw [show (1 : Int) * -1 = -1 by decide] at e; exact Or.inr e
  · rw [show (-1 : Int) * 1 = -1 by decide] at e; exact Or.inr e
  · rw [show (-1 : Int) * -1 = 1 by decide] at e; exact Or.inl e
theorem nz.addz (hp : pla br) {f g : Rat → Rat} (hf : nz br f) (hg : vz br g) : nz br (fun x => f x + g x) := by
  rcases hf with h | h
  · exact Or.inl (h.addz hp (Or.inl rfl) hg)
  · exact Or.inr (h.addz hp (Or.inr rfl) hg)
theorem pla.dich (hp : pla br) {g : Rat → Rat} (hg : lp g) : vz br g ∨ nz br g := by
  rcases hp.tri hg with h | h | h
  · exact Or.inl h
  · exact Or.inr (Or.inl h)
  · exact Or.inr (Or.inr h)
theorem vz.of_mul (hp : pla br) {f g : Rat → Rat} (lf : lp f) (h : vz br (fun x => f x * g x)) (hg : nz br g) : vz br f := by
  rcases hp.dich lf with h' | h'
  · exact h'
  · exact absurd h ((h'.mul hp hg).not hp)
theorem nz.const (hp : pla br) {a : Rat} (ha : a ≠ 0) : nz br (fun _ => a) := by
  obtain ⟨x, y, hb, _⟩ := hp.2.2.1 1 (by grind)
  by_cases h : 0 < a
  · exact Or.inl ⟨x, y, hb, a, h, fun t _ _ => by grind⟩
  · exact Or.inr ⟨x, y, hb, -a, by grind, fun t _ _ => by grind⟩
theorem vz.pow (hp : pla br) {f : Rat → Rat} (hf : vz br f) (lf : lp f) : ∀ n : Nat, vz br (fun x => f x ^ (n + 1))
  | 0 => hf.congr (fun x => by grind)
  | n + 1 => ((vz.pow hp hf lf n).mul hp lf).congr (fun x => by rw [Rat.pow_succ])
end
section
variable {q : Rat → Rat} {s N : Rat → Int} {B : Rat}
/-- the place of root i -/
def rb (q : Rat → Rat) (N : Rat → Int) (B : Rat) (i : Int) (x y : Rat) : Prop := ab x B ∧ ab y B ∧ x < y ∧ N x ≤ i ∧ i < N y ∧ (q y = 0 → i + 1 < N y)
theorem rct.pla (h : rct q s N B) (ql : lp q) {lo hi : Rat} {i : Int} (hb : rb q N B i lo hi) : pla (rb q N B i) := by
  have lt : ∀ x y, ab x B → ab y B → N x ≤ i → i < N y → x < y := fun x y hx hy a b => by
    by_cases hc : x < y
    · exact hc
    · have := h.mono hy hx (by grind); omega
  refine ⟨fun x y hb => hb.2.2.1, fun x y x' y' hb hb' => ?_, fun w hw => ?_, ⟨B, fun x y hb => ⟨hb.1, hb.2.1⟩⟩⟩
  · obtain ⟨a1, a2, a3, a4, a5, a6⟩ := hb
    obtain ⟨b1, b2, b3, b4, b5, b6⟩ := hb'
    by_cases c1 : x ≤ x' <;> by_cases c2 : y ≤ y'
    · exact ⟨x', y, ⟨b1, a2, lt _ _ b1 a2 b4 a5, b4, a5, a6⟩, c1, by grind, by grind, c2⟩
    · exact ⟨x', y', ⟨b1, b2, lt _ _ b1 b2 b4 b5, b4, b5, b6⟩, c1, by grind, by grind, by grind⟩
    · exact ⟨x, y, ⟨a1, a2, lt _ _ a1 a2 a4 a5, a4, a5, a6⟩, by grind, by grind, by grind, c2⟩
    · exact ⟨x, y', ⟨a1, b2, lt _ _ a1 b2 a4 b5, a4, b5, b6⟩, by grind, by grind, by grind, by grind⟩
  · obtain ⟨hl, hh, hlh, h1, h2, h3⟩ := hb
    have key : ∃ x y, ab x B ∧ ab y B ∧ x < y ∧ y - x < w / 2 ∧ N x ≤ i ∧ i < N y := by
      refine Classical.byContradiction (fun hc => ?_)
      have key := grid (B := B) (show 0 < w / 2 by grind) (R := fun x y => N x ≤ i → N y ≤ i) (fun x _ h => h) (fun x y z _ _ _ _ _ a b c => b (a c)) (fun x y hx hy hxy hw' hN => by
        refine Classical.byContradiction (fun hn => hc ⟨x, y, hx, hy, hxy, hw', hN, by omega⟩)) lo hi hl hh (by grind) h1
      omega
    obtain ⟨x, y, hx, hy, hxy, hw', n1, n2⟩ := key
    by_cases hc : hi ≤ y
    · have hlt := lt x hi hx hh n1 h2
      exact ⟨x, hi, ⟨hx, hh, hlt, n1, h2, h3⟩, by grind⟩
    · by_cases hq : q y = 0
      · obtain ⟨d, hd, r⟩ := h.right ql hy
        obtain ⟨z, z1, z2, z3, z4⟩ : ∃ z, y < z ∧ z < hi ∧ z - y < d ∧ z - y < w / 2 := by
          obtain ⟨d', hd', f1, f2⟩ := min_pos hd (show 0 < w / 2 by grind)
          obtain ⟨d'', hd'', f3, f4⟩ := min_pos hd' (show 0 < hi - y by grind)
          exact ⟨y + d'' / 2, by grind, by grind, by grind, by grind⟩
        have hz := ab_mid hy hh (show y ≤ z by grind) (show z ≤ hi by grind)
        obtain ⟨r1, r2, r3⟩ := r z hz z1 z3
        exact ⟨x, z, ⟨hx, hz, by grind, n1, by omega, fun h0 => absurd h0 r3⟩, by grind⟩
      · exact ⟨x, y, ⟨hx, hy, hxy, n1, n2, fun h0 => absurd h0 hq⟩, by grind⟩
/-- q itself is 0 there -/
theorem rct.vzq (h : rct q s N B) (ql : lp q) {lo hi : Rat} {i : Int} (hb : rb q N B i lo hi) : vz (rb q N B i) q := by
  have hp := h.pla ql hb
  rcases hp.dich ql with hv | hn
  · exact hv
  · exfalso
    have key : ∀ σ : Int, σ = 1 ∨ σ = -1 → ¬ sa (rb q N B i) q σ := by
      rintro σ hσ ⟨x, y, ⟨a1, a2, a3, a4, a5, a6⟩, ε, hε, h3⟩
      have := h.none' ql a1 a2 a3 (σ := σ) (fun t t1 t2 => (sgr_mul hσ _).1.1 (by have := h3 t (by grind) t2; grind)) (by omega)
      omega
    rcases hn with hn | hn
    · exact key 1 (Or.inl rfl) hn
    · exact key (-1) (Or.inr rfl) hn
end
theorem nn_of_mul {a b : Rat} (ha : 0 < a) (h : 0 ≤ a * b) : 0 ≤ b := by
  by_cases hb : 0 ≤ b
  · exact hb
  · have := Rat.mul_pos ha (show 0 < -b by grind); grind
theorem df.uniq {f f1 f2 : Rat → Rat} (h1 : df f f1) (h2 : df f f2) (x : Rat) : f1 x = f2 x := by
  obtain ⟨b, hb, hab⟩ := ab.self x
  obtain ⟨M, hM, m⟩ := h1 (b + 1)
  obtain ⟨L, hL, l⟩ := h2 (b + 1)
  have key : ∀ h : Rat, 0 < h → h ≤ 1 → ab (f1 x - f2 x) ((M + L) * h) := by
    intro h hh h1'
    have hx : ab x (b + 1) := hab.le (by grind)
    have hy : ab (x + h) (b + 1) := by clear m l; unfold ab at *; grind
    have a1 := m x (x + h) hx hy (by grind)
    have a2 := l x (x + h) hx hy (by grind)
    have a3 := a2.sub a1
    rw [show f (x + h) - f x - (x + h - x) * f2 x - (f (x + h) - f x - (x + h - x) * f1 x) = h * (f1 x - f2 x) by grind,
      show L * ((x + h - x) * (x + h - x)) + M * ((x + h - x) * (x + h - x)) = h * ((M + L) * h) by grind] at a3
    clear m l
    unfold ab at a3 ⊢
    constructor
    · have : 0 ≤ h * ((f1 x - f2 x) + (M + L) * h) := by grind
      have := nn_of_mul hh this
      grind
    · have : 0 ≤ h * ((M + L) * h - (f1 x - f2 x)) := by grind
      have := nn_of_mul hh this
      grind
  refine Classical.byContradiction (fun hne => ?_)
  obtain ⟨e, he, hor⟩ : ∃ e : Rat, 0 < e ∧ (f1 x - f2 x = e ∨ f1 x - f2 x = -e) := by
    by_cases hp : 0 < f1 x - f2 x
    · exact ⟨_, hp, Or.inl rfl⟩
    · exact ⟨-(f1 x - f2 x), by grind, Or.inr (by grind)⟩
  have hML : 0 < M + L := by grind
  have hd : 0 < e / (2 * (M + L)) := by rw [Rat.div_def]; exact Rat.mul_pos he (Rat.inv_pos.2 (by grind))
  obtain ⟨h, hh, c1, c2⟩ := min_pos hd (show (0 : Rat) < 1 by grind)
  have k := key h hh c2
  have h3 := Rat.mul_le_mul_of_nonneg_left c1 (show 0 ≤ M + L by grind)
  rw [show (M + L) * (e / (2 * (M + L))) = e / 2 by clear hd c1 h3 k; grind] at h3
  clear hd c1
  unfold ab at k
  grind
/-- the same, over places where q is not 0 -/
theorem rct.grid0 {q : Rat → Rat} {s N : Rat → Int} {B d : Rat} (h : rct q s N B) (ql : lp q) (hd : 0 < d) {R : Rat → Rat → Prop} (ht : ∀ x y z, ab x B → ab y B → ab z B → q x ≠ 0 → q y ≠ 0 → q z ≠ 0 → x < y → y < z → R x y → R y z → R x z) (hl : ∀ x y, ab x B → ab y B → x < y → y - x < d → q x ≠ 0 → q y ≠ 0 → R x y) : ∀ x y, ab x B → ab y B → x < y → q x ≠ 0 → q y ≠ 0 → R x y := by
  have key : ∀ n : Nat, ∀ x y, ab x B → ab y B → x < y → q x ≠ 0 → q y ≠ 0 → y - x ≤ n * (d / 4) → R x y := by
    intro n
    induction n with
    | zero => intro x y hx hy hxy _ _ hn; grind
    | succ n ih =>
      intro x y hx hy hxy q1 q2 hn
      by_cases hs : y - x < d
      · exact hl x y hx hy hxy hs q1 q2
      · have hz : ab (y - d / 2) B := by unfold ab at *; grind
        obtain ⟨e, he, r⟩ := h.right ql hz
        obtain ⟨z, z1, z2, z3⟩ : ∃ z, y - d / 2 < z ∧ z ≤ y - d / 4 ∧ z - (y - d / 2) < e := by
          by_cases hc : d / 4 < e
          · exact ⟨y - d / 4, by grind, by grind, by grind⟩
          · exact ⟨y - d / 2 + e / 2, by grind, by grind, by grind⟩
        have hz' : ab z B := by unfold ab at *; grind
        obtain ⟨_, _, qz⟩ := r z hz' z1 z3
        refine ht x z y hx hz' hy q1 qz q2 (by grind) (by grind) (ih x z hx hz' (by grind) q1 qz ?_) (hl _ _ hz' hy (by grind) (by grind) qz q2)
        have : ((n + 1 : Nat) : Rat) = n + 1 := by push_cast; rfl
        grind
  intro x y hx hy hxy q1 q2
  refine key ((y - x) / (d / 4)).ceil.toNat x y hx hy hxy q1 q2 ?_
  have h3 := Rat.le_ceil (x := (y - x) / (d / 4))
  have h4 : ((y - x) / (d / 4)).ceil ≤ (((y - x) / (d / 4)).ceil.toNat : Int) := Int.self_le_toNat _
  have h5 : ((((y - x) / (d / 4)).ceil : Int) : Rat) ≤ (((((y - x) / (d / 4)).ceil.toNat : Int)) : Rat) := Rat.intCast_le_intCast.2 h4
  have h6 : (y - x) / (d / 4) * (d / 4) = y - x := Rat.div_mul_cancel (by grind)
  have h7 := Rat.mul_le_mul_of_nonneg_right (Rat.le_trans h3 h5) (show 0 ≤ d / 4 by grind)
  rw [h6] at h7
  exact h7
section
variable {q : Rat → Rat} {s N : Rat → Int} {B : Rat}
theorem keep_nn {f : Rat → Rat} {x y : Rat} (hx : f x ≠ 0) (hy : f y ≠ 0) : keep f x y ∨ f x * f y < 0 := by
  unfold keep
  by_cases h : 0 < f x * f y
  · exact Or.inl h
  · right
    have : f x * f y ≠ 0 := by
      intro e
      rcases Rat.mul_eq_zero.1 e with e | e
      · exact hx e
      · exact hy e
    grind
theorem rct.step (h : rct q s N B) : ∃ d : Rat, 0 < d ∧ ∀ x y, ab x B → ab y B → x < y → y - x < d → q x ≠ 0 → q y ≠ 0 → (keep q x y → N y = N x) ∧ (q x * q y < 0 → N y = N x + 1) := by
  obtain ⟨d, hd, l⟩ := h.lc
  refine ⟨d, hd, fun x y hx hy hxy hl q1 q2 => ?_⟩
  have s1 := h.sq x hx q1
  have s2 := h.sq y hy q2
  have s3 := h.s1 x hx
  rcases l x y hx hy hxy hl with h' | h'
  · refine ⟨fun _ => h'.1, fun hn => ?_⟩
    have := sgr_opp hn
    omega
  · refine ⟨fun hk => ?_, fun _ => h'.1⟩
    have := hk.sg
    omega
theorem fac_sg {a b c d : Rat} : ((0 < a * c ∧ 0 < b * d) → 0 < (a * b) * (c * d)) ∧ ((a * c < 0 ∧ 0 < b * d) → (a * b) * (c * d) < 0) ∧ ((0 < a * c ∧ b * d < 0) → (a * b) * (c * d) < 0) := by
  refine ⟨fun h => ?_, fun h => ?_, fun h => ?_⟩
  · have := Rat.mul_pos h.1 h.2; grind
  · have := Rat.mul_pos (show 0 < -(a * c) by grind) h.2; grind
  · have := Rat.mul_pos h.1 (show 0 < -(b * d) by grind); grind
/-- a factor d of q, near by -/
theorem rct.fac (h : rct q s N B) {d k U W : Rat → Rat} (ld : lp d) (lk : lp k) (lU : lp U) (lW : lp W) (e : ∀ x, q x = d x * k x) (bz : ∀ x, U x * d x + W x * k x = 1) : ∃ δ : Rat, 0 < δ ∧ ∀ x y, ab x B → ab y B → x < y → y - x < δ → q x ≠ 0 → q y ≠ 0 → (N y = N x ∧ keep d x y ∧ keep k x y) ∨ (N y = N x + 1 ∧ d x * d y < 0 ∧ keep k x y) ∨ (N y = N x + 1 ∧ keep d x y ∧ k x * k y < 0) := by
  obtain ⟨d1, hd1, l1⟩ := h.step
  obtain ⟨d2, ε, hd2, hε, l2⟩ := near_one ld lk lU lW bz B
  obtain ⟨d3, hd3, m1, m2⟩ := min_pos hd1 hd2
  refine ⟨d3, hd3, fun x y hx hy hxy hl q1 q2 => ?_⟩
  obtain ⟨a1, a2⟩ := l1 x y hx hy hxy (Std.lt_of_lt_of_le hl m1) q1 q2
  have a3 := l2 x y hx hy (by grind) (Std.lt_of_lt_of_le hl m2)
  have dx : d x ≠ 0 := fun h0 => q1 (by rw [e, h0]; grind)
  have dy : d y ≠ 0 := fun h0 => q2 (by rw [e, h0]; grind)
  have kx : k x ≠ 0 := fun h0 => q1 (by rw [e, h0]; grind)
  have ky : k y ≠ 0 := fun h0 => q2 (by rw [e, h0]; grind)
  have f := fac_sg (a := d x) (b := k x) (c := d y) (d := k y)
  rw [← e, ← e] at f
  rcases keep_nn dx dy with hdk | hdk
  · rcases keep_nn kx ky with hkk | hkk
    · exact Or.inl ⟨a1 (f.1 ⟨hdk, hkk⟩), hdk, hkk⟩
    · exact Or.inr (Or.inr ⟨a2 (f.2.2 ⟨hdk, hkk⟩), hdk, hkk⟩)
  · have hkk := (a3 (fun h' => by unfold keep at h'; grind)).1
    exact Or.inr (Or.inl ⟨a2 (f.2.1 ⟨hdk, hkk⟩), hdk, hkk⟩)
theorem keep_tr {f : Rat → Rat} {x y z : Rat} (h1 : keep f x y) (h2 : keep f y z) : keep f x z := keep_of_sg ⟨h1.sg.1.trans h2.sg.1, h1.sg.2⟩
theorem keep_ch {f : Rat → Rat} {x y z : Rat} (h1 : keep f x y) (h2 : f y * f z < 0) : f x * f z < 0 := by
  unfold keep at h1
  have := mul_pos_iff'.1 h1
  have h3 : 0 < f y * (-f z) := by grind
  have := mul_pos_iff'.1 h3
  have : 0 < f x * (-f z) := mul_pos_iff'.2 (by grind)
  grind
theorem ch_keep {f : Rat → Rat} {x y z : Rat} (h1 : f x * f y < 0) (h2 : keep f y z) : f x * f z < 0 := by
  have := keep_ch h2.symm_x (show f y * f x < 0 by grind)
  grind
/-- a factor d of q, over a stretch with no root of q, or one -/
theorem rct.fac1 (h : rct q s N B) (ql : lp q) {d k U W : Rat → Rat} (ld : lp d) (lk : lp k) (lU : lp U) (lW : lp W) (e : ∀ x, q x = d x * k x) (bz : ∀ x, U x * d x + W x * k x = 1) : ∀ x y, ab x B → ab y B → x < y → q x ≠ 0 → q y ≠ 0 → (N y = N x → keep d x y ∧ keep k x y) ∧ (N y = N x + 1 → (d x * d y < 0 ∧ keep k x y) ∨ (keep d x y ∧ k x * k y < 0)) := by
  obtain ⟨δ, hδ, l⟩ := h.fac ld lk lU lW e bz
  refine h.grid0 ql hδ (R := fun x y => (N y = N x → keep d x y ∧ keep k x y) ∧ (N y = N x + 1 → (d x * d y < 0 ∧ keep k x y) ∨ (keep d x y ∧ k x * k y < 0))) (fun x y z hx hy hz q1 q2 q3 hxy hyz r1 r2 => ?_) (fun x y hx hy hxy hl q1 q2 => ?_)
  · have m1 := h.mono hx hy (by grind)
    have m2 := h.mono hy hz (by grind)
    refine ⟨fun hn => ?_, fun hn => ?_⟩
    · have a := r1.1 (by omega)
      have b := r2.1 (by omega)
      exact ⟨keep_tr a.1 b.1, keep_tr a.2 b.2⟩
    · by_cases hc : N y = N x
      · have a := r1.1 hc
        rcases r2.2 (by omega) with b | b
        · exact Or.inl ⟨keep_ch a.1 b.1, keep_tr a.2 b.2⟩
        · exact Or.inr ⟨keep_tr a.1 b.1, keep_ch a.2 b.2⟩
      · have b := r2.1 (by omega)
        rcases r1.2 (by omega) with a | a
        · exact Or.inl ⟨ch_keep a.1 b.1, keep_tr a.2 b.2⟩
        · exact Or.inr ⟨keep_tr a.1 b.1, ch_keep a.2 b.2⟩
  · rcases l x y hx hy hxy hl q1 q2 with a | a | a
    · exact ⟨fun _ => a.2, fun hn => by omega⟩
    · exact ⟨fun hn => by omega, fun _ => Or.inl a.2⟩
    · exact ⟨fun hn => by omega, fun _ => Or.inr a.2⟩
end
section
variable {q : Rat → Rat} {s N : Rat → Int} {B : Rat}
/-- a small stretch around root i, inside a given one, whose ends are no roots -/
theorem rct.small (h : rct q s N B) (ql : lp q) {lo hi : Rat} {i : Int} (hl : ab lo B) (hh : ab hi B) (h1 : N lo = i) (h2 : N hi = i + 1) (q1 : q lo ≠ 0) (q2 : q hi ≠ 0) {x0 y0 : Rat} (hb : rb q N B i x0 y0) {w : Rat} (hw : 0 < w) : ∃ x y, rb q N B i x y ∧ lo ≤ x ∧ x < y ∧ y ≤ hi ∧ x0 ≤ x ∧ y ≤ y0 ∧ y - x < w ∧ N x = i ∧ N y = i + 1 ∧ q x ≠ 0 ∧ q y ≠ 0 := by
  have hlh : lo < hi := by
    by_cases hc : lo < hi
    · exact hc
    · have := h.mono hh hl (by grind); omega
  have hb0 : rb q N B i lo hi := ⟨hl, hh, hlh, by omega, by omega, fun h0 => absurd h0 q2⟩
  have hp := h.pla ql hb0
  obtain ⟨xs, ys, b1, b2⟩ := hp.2.2.1 w hw
  obtain ⟨u1, v1, b3, c1, c2, c3, c4⟩ := hp.2.1 xs ys x0 y0 b1 hb
  obtain ⟨u, v, b4, e1, e2, e3, e4⟩ := hp.2.1 u1 v1 lo hi b3 hb0
  have b5 := b4
  obtain ⟨hu, hv, huv, nu, nv, nq⟩ := b4
  have m1 := h.mono hl hu e3
  have m2 := h.mono hv hh e4
  have qu : q u ≠ 0 := fun h0 => by
    by_cases hc : lo < u
    · have := h.zero hl hu hc h0; omega
    · have : u = lo := by grind
      rw [this] at h0; exact q1 h0
  have qv : q v ≠ 0 := fun h0 => by have := nq h0; omega
  exact ⟨u, v, b5, e3, huv, e4, by grind, by grind, by grind, by omega, by omega, qu, qv⟩
theorem ab_of_opp {f : Rat → Rat} {x y B M : Rat} (hx : ab x B) (hy : ab y B) (hxy : x < y) (m2 : ∀ x y, ab x B → ab y B → x ≤ y → ab (f y - f x) (M * (y - x))) (hM : 0 < M) (hk : f x * f y < 0) : ∀ t, x ≤ t → t ≤ y → ab (f t) (2 * (M * (y - x))) := by
  intro t t1 t2
  have h1 := (nokeep (show ¬ 0 < f x * f y by grind) (m2 x y hx hy (by grind))).1
  have h2 := m2 x t hx (ab_mid hx hy t1 t2) t1
  have h3 := Rat.mul_le_mul_of_nonneg_left (show t - x ≤ y - x by grind) (show 0 ≤ M by grind)
  have h4 := h1.add h2
  rw [show f x + (f t - f x) = f t by grind] at h4
  exact h4.le (by grind)
/-- a factor that changes its sign around root i is 0 there -/
theorem rct.facz (h : rct q s N B) (ql : lp q) {d k U W : Rat → Rat} (ld : lp d) (lk : lp k) (lU : lp U) (lW : lp W) (e : ∀ x, q x = d x * k x) (bz : ∀ x, U x * d x + W x * k x = 1) {lo hi : Rat} {i : Int} (hl : ab lo B) (hh : ab hi B) (h1 : N lo = i) (h2 : N hi = i + 1) (q1 : q lo ≠ 0) (q2 : q hi ≠ 0) (hd : d lo * d hi < 0) : vz (rb q N B i) d := by
  intro ε hε
  obtain ⟨M, hM, m1, m2⟩ := ld B
  have hlh : lo < hi := by
    by_cases hc : lo < hi
    · exact hc
    · have := h.mono hh hl (by grind); omega
  have hb0 : rb q N B i lo hi := ⟨hl, hh, hlh, by omega, by omega, fun h0 => absurd h0 q2⟩
  have hw : 0 < ε / (2 * M) := by rw [Rat.div_def]; exact Rat.mul_pos hε (Rat.inv_pos.2 (by grind))
  obtain ⟨x, y, b, c1, c2, c3, c4, c5, c6, n1, n2, qx, qy⟩ := h.small ql hl hh h1 h2 q1 q2 hb0 hw
  have f := h.fac1 ql ld lk lU lW e bz
  have dxy : d x * d y < 0 := by
    have k1 : keep d lo x := by
      by_cases hc : lo < x
      · exact ((f lo x hl b.1 hc q1 qx).1 (by omega)).1
      · rw [show x = lo by grind]
        have dl : d lo ≠ 0 := fun h0 => q1 (by rw [e, h0]; grind)
        rcases keep_nn (f := d) dl dl with hk | hk
        · exact hk
        · have := Rat.mul_nonneg (show 0 ≤ (1 : Rat) by grind) (show 0 ≤ (1 : Rat) by grind)
          unfold keep; by_cases hp : 0 < d lo
          · exact Rat.mul_pos hp hp
          · have := Rat.mul_pos (show 0 < - d lo by grind) (show 0 < - d lo by grind); grind
    have k2 : keep d y hi := by
      by_cases hc : y < hi
      · exact ((f y hi b.2.1 hh hc qy q2).1 (by omega)).1
      · rw [show y = hi by grind]
        have dl : d hi ≠ 0 := fun h0 => q2 (by rw [e, h0]; grind)
        unfold keep; by_cases hp : 0 < d hi
        · exact Rat.mul_pos hp hp
        · have := Rat.mul_pos (show 0 < - d hi by grind) (show 0 < - d hi by grind); grind
    exact ch_keep (keep_ch k1.symm_x hd) k2.symm_x
  refine ⟨x, y, b, fun t t1 t2 => (ab_of_opp b.1 b.2.1 c2 m2 hM dxy t t1 t2).le ?_⟩
  have h4 := Rat.mul_le_mul_of_nonneg_left (show y - x ≤ ε / (2 * M) by grind) (show 0 ≤ 2 * M by grind)
  rw [show 2 * M * (ε / (2 * M)) = ε by clear h4 hw c6; grind] at h4
  grind
theorem bz_nz {br : Rat → Rat → Prop} (hp : pla br) {u f w h : Rat → Rat} (lu : lp u) (lw : lp w) (lh : lp h) (e : ∀ x, u x * f x + w x * h x = 1) (hv : vz br f) : nz br h := by
  rcases hp.dich lh with h1 | h1
  · exfalso
    have h2 := (hv.mul hp lu).add hp (h1.mul hp lw)
    have h3 : vz br (fun _ => 1) := h2.congr (fun x => by have := e x; grind)
    exact (nz.const hp (show (1 : Rat) ≠ 0 by grind)).not hp h3
  · exact h1
/-- .. and one that keeps it has it there -/
theorem rct.facn (h : rct q s N B) (ql : lp q) {d k U W : Rat → Rat} (ld : lp d) (lk : lp k) (lU : lp U) (lW : lp W) (e : ∀ x, q x = d x * k x) (bz : ∀ x, U x * d x + W x * k x = 1) {lo hi : Rat} {i : Int} (hl : ab lo B) (hh : ab hi B) (h1 : N lo = i) (h2 : N hi = i + 1) (q1 : q lo ≠ 0) (q2 : q hi ≠ 0) (hd : keep d lo hi) : nz (rb q N B i) d := by
  have hlh : lo < hi := by
    by_cases hc : lo < hi
    · exact hc
    · have := h.mono hh hl (by grind); omega
  have hb0 : rb q N B i lo hi := ⟨hl, hh, hlh, by omega, by omega, fun h0 => absurd h0 q2⟩
  have hk : k lo * k hi < 0 := by
    rcases (h.fac1 ql ld lk lU lW e bz lo hi hl hh hlh q1 q2).2 (by omega) with a | a
    · exfalso; have := a.1; unfold keep at hd; grind
    · exact a.2
  have bz' : ∀ x, W x * k x + U x * d x = 1 := fun x => by have := bz x; grind
  have hv := h.facz ql lk ld lW lU (fun x => by rw [e]; grind) bz' hl hh h1 h2 q1 q2 hk
  exact bz_nz (h.pla ql hb0) lW lU ld bz' hv
end
