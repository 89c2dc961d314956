/-- the value of a polynomial with rational coefficients -/
def er (c : Nat → Rat) : Nat → Rat → Rat
  | 0, _ => 0
  | n + 1, x => er c n x + c n * x ^ n
/-- a polynomial function with n coefficients -/
def pb (f : Rat → Rat) (n : Nat) : Prop := ∃ c : Nat → Rat, ∀ x, f x = er c n x
theorem er_congr {c d : Nat → Rat} : ∀ {n : Nat}, (∀ k, k < n → c k = d k) → ∀ x, er c n x = er d n x
  | 0, _, _ => rfl
  | n + 1, h, x => by
    show er c n x + _ = er d n x + _
    rw [er_congr (fun k hk => h k (by omega)) x, h n (by omega)]
theorem er_add (c d : Nat → Rat) (x : Rat) : ∀ n, er (fun k => c k + d k) n x = er c n x + er d n x
  | 0 => by simp only [er]; grind
  | n + 1 => by
    show er _ n x + (c n + d n) * x ^ n = (er c n x + c n * x ^ n) + (er d n x + d n * x ^ n)
    rw [er_add c d x n]; grind
theorem er_smul (a : Rat) (c : Nat → Rat) (x : Rat) : ∀ n, er (fun k => a * c k) n x = a * er c n x
  | 0 => by simp only [er]; grind
  | n + 1 => by
    show er _ n x + (a * c n) * x ^ n = a * (er c n x + c n * x ^ n)
    rw [er_smul a c x n]; grind
theorem er_cons (c : Nat → Rat) (x : Rat) : ∀ n, er c (n + 1) x = c 0 + x * er (fun k => c (k + 1)) n x
  | 0 => by simp only [er]; grind
  | n + 1 => by
    show er c (n + 1) x + c (n + 1) * x ^ (n + 1) = c 0 + x * (er _ n x + c (n + 1) * x ^ n)
    rw [er_cons c x n, Rat.pow_succ]; grind
theorem er_pad {c : Nat → Rat} {n m : Nat} (h : n ≤ m) (h0 : ∀ k, n ≤ k → k < m → c k = 0) (x : Rat) : er c m x = er c n x := by
  induction m with
  | zero => rw [show n = 0 by omega]
  | succ m ih =>
    by_cases e : n = m + 1
    · rw [e]
    · show er c m x + c m * x ^ m = _
      rw [ih (by omega) (fun k a b => h0 k a (by omega)), h0 m (by omega) (by omega)]; grind
theorem pb.congr {f g : Rat → Rat} {n : Nat} (h : pb f n) (e : ∀ x, g x = f x) : pb g n := by
  rw [show g = f from funext e]; exact h
theorem pb.mono {f : Rat → Rat} {n m : Nat} (h : pb f n) (hm : n ≤ m) : pb f m := by
  obtain ⟨c, hc⟩ := h
  refine ⟨fun k => if k < n then c k else 0, fun x => ?_⟩
  rw [er_pad hm (fun k a b => by rw [if_neg (by omega)]), hc]
  exact er_congr (fun k hk => by rw [if_pos hk]) x
theorem pb.add {f g : Rat → Rat} {n : Nat} (hf : pb f n) (hg : pb g n) : pb (fun x => f x + g x) n := by
  obtain ⟨c, hc⟩ := hf
  obtain ⟨d, hd⟩ := hg
  exact ⟨fun k => c k + d k, fun x => by rw [er_add, ← hc, ← hd]⟩
theorem pb.smul {f : Rat → Rat} {n : Nat} (a : Rat) (hf : pb f n) : pb (fun x => a * f x) n := by
  obtain ⟨c, hc⟩ := hf
  exact ⟨fun k => a * c k, fun x => by rw [er_smul, ← hc]⟩
theorem pb.x {f : Rat → Rat} {n : Nat} (hf : pb f n) : pb (fun x => x * f x) (n + 1) := by
  obtain ⟨c, hc⟩ := hf
  refine ⟨fun k => if k = 0 then 0 else c (k - 1), fun x => ?_⟩
  rw [er_cons]
  have e := er_congr (c := fun k => if k + 1 = 0 then (0 : Rat) else c (k + 1 - 1)) (d := c) (n := n) (fun k _ => by simp) x
  rw [e, ← hc, if_pos rfl]
  show x * f x = 0 + x * f x
  grind
theorem pb.zero (n : Nat) : pb (fun _ => 0) n := ⟨fun _ => 0, fun x => by rw [er_pad (Nat.zero_le n) (fun _ _ _ => rfl)]; rfl⟩
theorem pb.const (a : Rat) : pb (fun _ => a) 1 := ⟨fun _ => a, fun x => by simp only [er]; grind⟩
theorem pb.mul {g : Rat → Rat} {m : Nat} (hg : pb g (m + 1)) : ∀ {n : Nat} {f : Rat → Rat}, pb f n → pb (fun x => f x * g x) (n + m)
  | 0, f, hf => by
    obtain ⟨c, hc⟩ := hf
    exact (pb.zero _).congr (fun x => by rw [hc]; simp only [er]; grind)
  | n + 1, f, hf => by
    obtain ⟨c, hc⟩ := hf
    have h1 := (pb.mul hg (f := fun x => er (fun k => c (k + 1)) n x) ⟨_, fun x => rfl⟩).x
    have h2 := (hg.smul (c 0)).mono (show m + 1 ≤ n + m + 1 by omega)
    rw [show n + 1 + m = n + m + 1 by omega]
    exact (h2.add h1).congr (fun x => by rw [hc, er_cons]; grind)
theorem pb.pow (n : Nat) : pb (fun x => x ^ n) (n + 1) := by
  induction n with
  | zero => exact (pb.const 1).congr (fun x => by grind)
  | succ n ih => exact ih.x.congr (fun x => by rw [Rat.pow_succ]; grind)
/-- a polynomial function -/
def pl (f : Rat → Rat) : Prop := ∃ n, pb f n
theorem pl.add {f g : Rat → Rat} (hf : pl f) (hg : pl g) : pl (fun x => f x + g x) := by
  obtain ⟨n, h⟩ := hf
  obtain ⟨m, k⟩ := hg
  exact ⟨n + m, (h.mono (by omega)).add (k.mono (by omega))⟩
theorem pl.mul {f g : Rat → Rat} (hf : pl f) (hg : pl g) : pl (fun x => f x * g x) := by
  obtain ⟨n, h⟩ := hf
  obtain ⟨m, k⟩ := hg
  exact ⟨n + m, pb.mul (k.mono (by omega)) h⟩
theorem pl.const (a : Rat) : pl (fun _ => a) := ⟨1, pb.const a⟩
theorem pl.congr {f g : Rat → Rat} (h : pl f) (e : ∀ x, g x = f x) : pl g := by
  rw [show g = f from funext e]; exact h
theorem pl.smul {f : Rat → Rat} (a : Rat) (hf : pl f) : pl (fun x => a * f x) := (pl.const a).mul hf
theorem pl.neg {f : Rat → Rat} (hf : pl f) : pl (fun x => - f x) := (hf.smul (-1)).congr (fun x => by grind)
theorem pl.sub {f g : Rat → Rat} (hf : pl f) (hg : pl g) : pl (fun x => f x - g x) := (hf.add hg.neg).congr (fun x => by grind)
theorem pb.evl (P : Nat → Int) (n : Nat) : pb (ev P n) n := ⟨fun k => P k, fun x => by
  induction n with
  | zero => rfl
  | succ n ih => show ev P n x + _ = er _ n x + _; rw [ih]⟩
theorem pl.ev (P : Nat → Int) (n : Nat) : pl (ev P n) := ⟨n, pb.evl P n⟩
/-- .. has a slope that is one again -/
theorem pb.sm : ∀ {n : Nat} {f : Rat → Rat}, pb f n → ∃ f1, df f f1 ∧ lp f ∧ lp f1 ∧ pb f1 (n - 1)
  | 0, f, hf => by
    obtain ⟨c, hc⟩ := hf
    exact ⟨fun _ => 0, (df.const 0).congr (fun x => by rw [hc]; rfl) (fun x => rfl), (lp.const 0).congr (fun x => by rw [hc]; rfl), lp.const 0, pb.zero _⟩
  | n + 1, f, hf => by
    obtain ⟨c, hc⟩ := hf
    obtain ⟨f1, h1, h2, h3, h4⟩ := pb.sm (f := er c n) (n := n) ⟨c, fun x => rfl⟩
    refine ⟨fun x => f1 x + c n * (n * x ^ (n - 1)), (h1.add ((df.pow n).smul (c n) (lp.pow n))).congr (fun x => by rw [hc]; rfl) (fun x => rfl), (h2.add ((lp.pow n).smul (c n))).congr (fun x => by rw [hc]; rfl), h3.add (((lp.pow (n - 1)).smul (n : Rat)).smul (c n)), ?_⟩
    rw [Nat.add_sub_cancel]
    rcases Nat.eq_zero_or_pos n with e | e
    · subst e
      exact h4.congr (fun x => by simp; grind)
    · exact (h4.mono (by omega)).add (((((pb.pow (n - 1)).mono (by omega)).smul (n : Rat))).smul (c n))
theorem pl.lp {f : Rat → Rat} (h : pl f) : lp f := by
  obtain ⟨n, h⟩ := h
  obtain ⟨f1, _, h2, _⟩ := h.sm
  exact h2
theorem pl.sm {f : Rat → Rat} (h : pl f) : sm f := by
  obtain ⟨n, h⟩ := h
  obtain ⟨f1, h1, h2, h3, _⟩ := h.sm
  exact ⟨h2, f1, h1, h3⟩
theorem pl.df {f : Rat → Rat} (h : pl f) : ∃ f1, df f f1 ∧ pl f1 := by
  obtain ⟨n, h⟩ := h
  obtain ⟨f1, h1, _, _, h4⟩ := h.sm
  exact ⟨f1, h1, _, h4⟩
theorem df.pl {f f1 : Rat → Rat} (h : pl f) (hd : df f f1) : pl f1 := by
  obtain ⟨f2, h1, h2⟩ := h.df
  exact h2.congr (fun x => hd.uniq h1 x)
/-- far out -/
theorem er_far {c : Nat → Rat} {H x : Rat} (hH0 : 0 ≤ H) (hx : 1 + H ≤ x) : ∀ {n : Nat}, (∀ k, k < n → ab (c k) H) → ab (er c n x) (x ^ n - 1)
  | 0, _ => by simp only [er]; unfold ab; grind
  | n + 1, hH => by
    have ih := er_far hH0 hx (n := n) (fun k hk => hH k (by omega))
    have hp : 0 < x ^ n := Rat.pow_pos (by grind)
    show ab (er c n x + c n * x ^ n) (x ^ (n + 1) - 1)
    have h1 : ab (c n * x ^ n) (H * x ^ n) := (hH n (by omega)).mul (show ab (x ^ n) (x ^ n) by unfold ab; grind)
    refine (ih.add h1).le ?_
    rw [Rat.pow_succ]
    have := Rat.mul_le_mul_of_nonneg_right (show H ≤ x - 1 by grind) (show 0 ≤ x ^ n by grind)
    grind
theorem er_bd (c : Nat → Rat) : ∀ n, ∃ H : Rat, 0 < H ∧ ∀ k, k < n → ab (c k) H
  | 0 => ⟨1, by grind, fun k hk => by omega⟩
  | n + 1 => by
    obtain ⟨H, hH, h⟩ := er_bd c n
    obtain ⟨b, hb, hab⟩ := ab.self (c n)
    refine ⟨H + b, by grind, fun k hk => ?_⟩
    by_cases e : k = n
    · subst e; exact hab.le (by grind)
    · exact (h k (by omega)).le (by grind)
/-- of degree n: the top coefficient is not 0 -/
def dg (f : Rat → Rat) (n : Nat) : Prop := ∃ a f1, a ≠ 0 ∧ pb f1 n ∧ ∀ x, f x = a * x ^ n + f1 x
theorem dg.far {f : Rat → Rat} {n : Nat} (h : dg f n) : ∃ B : Rat, 0 < B ∧ ∀ x, B ≤ x → f x ≠ 0 := by
  obtain ⟨a, f1, ha, ⟨c, hc⟩, hf⟩ := h
  obtain ⟨H, hH, hb⟩ := er_bd (fun k => c k / a) n
  refine ⟨1 + H, by grind, fun x hx h0 => ?_⟩
  have h1 := er_far (by grind) hx hb
  have h2 : er (fun k => c k / a) n x = f1 x / a := by
    rw [hc, Rat.div_def, Rat.mul_comm, ← er_smul]
    exact er_congr (fun k _ => by rw [Rat.div_def, Rat.mul_comm]) x
  rw [h2] at h1
  rw [hf] at h0
  have h3 : f1 x / a = - x ^ n := by
    have : f1 x = - (a * x ^ n) := by grind
    rw [this]; clear h1 h2 hb; grind
  rw [h3] at h1
  unfold ab at h1
  grind
theorem pb.dich : ∀ {n : Nat} {f : Rat → Rat}, pb f n → (∀ x, f x = 0) ∨ ∃ d, d < n ∧ dg f d
  | 0, f, h => by
    obtain ⟨c, hc⟩ := h
    exact Or.inl (fun x => by rw [hc]; rfl)
  | n + 1, f, h => by
    obtain ⟨c, hc⟩ := h
    by_cases h0 : c n = 0
    · rcases pb.dich (f := f) (n := n) ⟨c, fun x => by rw [hc]; show er c n x + c n * x ^ n = _; rw [h0]; grind⟩ with g | ⟨d, d1, d2⟩
      · exact Or.inl g
      · exact Or.inr ⟨d, by omega, d2⟩
    · exact Or.inr ⟨n, by omega, c n, er c n, h0, ⟨c, fun x => rfl⟩, fun x => by rw [hc]; show er c n x + c n * x ^ n = _; grind⟩
theorem dg.bnd {f : Rat → Rat} {n : Nat} (h : dg f n) : pb f (n + 1) := by
  obtain ⟨a, f1, _, h1, h2⟩ := h
  exact (((pb.pow n).smul a).add (h1.mono (by omega))).congr h2
theorem dg.mul {f g : Rat → Rat} {n m : Nat} (hf : dg f n) (hg : dg g m) : dg (fun x => f x * g x) (n + m) := by
  have hg' := hg.bnd
  obtain ⟨a, f1, ha, pf, ef⟩ := hf
  obtain ⟨b, g1, hb, pg, eg⟩ := hg
  refine ⟨a * b, fun x => a * (g1 x * x ^ n) + f1 x * g x, fun h => ?_, ?_, fun x => ?_⟩
  · rcases Rat.mul_eq_zero.1 h with h | h
    · exact ha h
    · exact hb h
  · have h1 := (pb.mul (pb.pow n) pg).smul a
    have h2 := pb.mul hg' pf
    rw [Nat.add_comm] at h1
    exact h1.add h2
  · show f x * g x = a * b * x ^ (n + m) + (a * (g1 x * x ^ n) + f1 x * g x)
    rw [ef, eg, rpow_add]; grind
theorem dg.uniq {f : Rat → Rat} {n m : Nat} (h1 : dg f n) (h2 : pb f m) : n < m := by
  by_cases hc : n < m
  · exact hc
  · exfalso
    obtain ⟨a, f1, ha, p1, e1⟩ := h1
    have h3 : dg (fun x => f x - f x) n := by
      refine ⟨a, fun x => f1 x - f x, ha, ?_, fun x => by have := e1 x; show f x - f x = a * x ^ n + (f1 x - f x); grind⟩
      exact (p1.add (((h2.mono (by omega)).smul (-1)))).congr (fun x => by grind)
    obtain ⟨B, _, hB⟩ := h3.far
    exact hB B Rat.le_refl (by grind)
theorem dg.eq {f : Rat → Rat} {n m : Nat} (h1 : dg f n) (h2 : dg f m) : n = m := by
  have := h1.uniq h2.bnd
  have := h2.uniq h1.bnd
  omega
theorem dg.congr {f g : Rat → Rat} {n : Nat} (h : dg f n) (e : ∀ x, g x = f x) : dg g n := by
  rw [show g = f from funext e]; exact h
/-- a polynomial that is not 0 can be cancelled -/
theorem pl.cancel {f g : Rat → Rat} (hf : pl f) (hg : pl g) (h : ∀ x, f x * g x = 0) (h0 : ∃ x, g x ≠ 0) : ∀ x, f x = 0 := by
  obtain ⟨n, hf⟩ := hf
  obtain ⟨m, hg⟩ := hg
  rcases hf.dich with h1 | ⟨d, _, h1⟩
  · exact h1
  · rcases hg.dich with h2 | ⟨e, _, h2⟩
    · obtain ⟨x, hx⟩ := h0; exact absurd (h2 x) hx
    · obtain ⟨B, _, hB⟩ := (h1.mul h2).far
      exact absurd (h B) (hB B Rat.le_refl)
theorem dg.pow {h : Rat → Rat} {d : Nat} (hd : dg h d) : ∀ k : Nat, dg (fun x => h x ^ k) (d * k)
  | 0 => ⟨1, fun _ => 0, by grind, pb.zero _, fun x => by grind⟩
  | k + 1 => ((dg.pow hd k).mul hd).congr (fun x => by rw [Rat.pow_succ])
theorem pl.pow {f : Rat → Rat} (h : pl f) : ∀ k : Nat, pl (fun x => f x ^ k)
  | 0 => (pl.const 1).congr (fun x => by grind)
  | k + 1 => ((pl.pow h k).mul h).congr (fun x => by rw [Rat.pow_succ])
theorem df.powf {f f1 : Rat → Rat} (hf : df f f1) (lf : lp f) : ∀ k : Nat, df (fun x => f x ^ (k + 1)) (fun x => (k + 1) * (f x ^ k * f1 x)) ∧ lp (fun x => f x ^ (k + 1))
  | 0 => ⟨hf.congr (fun x => by grind) (fun x => by grind), lf.congr (fun x => by grind)⟩
  | k + 1 => by
    obtain ⟨h1, h2⟩ := df.powf hf lf k
    refine ⟨(h1.mul hf h2 lf).congr (fun x => by rw [Rat.pow_succ]) (fun x => ?_), (h2.mul lf).congr (fun x => by rw [Rat.pow_succ])⟩
    have e : ((k + 1 : Nat) : Rat) = k + 1 := by push_cast; rfl
    rw [e, Rat.pow_succ (f x) k]
    grind
/-- the part without repeated factors shares none with its slope: p = g S, p' = g T, U S + W T = 1; S = h r, S' = h s -/
theorem sqfree {p p1 g S S1 T U W h r s : Rat → Rat} (pg : pl g) (pS : pl S) (pT : pl T) (pU : pl U) (pW : pl W) (ph : pl h) (pr : pl r) (ps : pl s) (hp : ∀ x, p x = g x * S x) (dp : df p p1) (hp1 : ∀ x, p1 x = g x * T x) (bz : ∀ x, U x * S x + W x * T x = 1) (dS : df S S1) (hS : ∀ x, S x = h x * r x) (hS1 : ∀ x, S1 x = h x * s x) (g0 : ∃ x, g x ≠ 0) : dg h 0 := by
  obtain ⟨h1, dh, ph1⟩ := ph.df
  obtain ⟨r1, dr, pr1⟩ := pr.df
  have h0 : ∃ x, h x ≠ 0 := by
    refine Classical.byContradiction (fun hc => ?_)
    have hz : ∀ x, h x = 0 := fun x => Classical.byContradiction (fun h' => hc ⟨x, h'⟩)
    -- S = 0, so W T = 1 and S1 = 0; p = 0, so g T = 0
    have e1 : ∀ x, S x = 0 := fun x => by rw [hS, hz]; grind
    have e2 : ∀ x, p1 x = 0 := fun x => (dp.uniq ((df.const 0).congr (fun x => by rw [hp, e1]; grind) (fun x => rfl)) x)
    have e3 : ∀ x, g x * T x = 0 := fun x => by rw [← hp1, e2]
    have e4 : ∀ x, T x = 0 := pT.cancel pg (fun x => by rw [Rat.mul_comm]; exact e3 x) g0
    have := bz 0
    rw [e1, e4] at this
    grind
  -- h' r = h (s - r')
  have hy : ∀ x, h1 x * r x = h x * (s x - r1 x) := fun x => by
    have e := dS.uniq ((dh.mul dr ph.lp pr.lp).congr hS (fun x => rfl)) x
    rw [hS1] at e
    grind
  have key : ∀ k : Nat, ∃ gk, pl gk ∧ ∀ x, g x = h x ^ k * gk x := by
    intro k
    induction k with
    | zero => exact ⟨g, pg, fun x => by grind⟩
    | succ k ih =>
      obtain ⟨gk, pgk, egk⟩ := ih
      obtain ⟨gk1, dgk, pgk1⟩ := pgk.df
      -- z
      have hz : ∀ x, h x * (k * ((s x - r1 x) * gk x) + gk1 x * r x) - gk x * (T x - h x * s x) = 0 := by
        refine pl.cancel (g := fun x => h x ^ k) ?_ (ph.pow k) (fun x => ?_) ?_
        · exact (ph.mul ((((ps.sub pr1).mul pgk).smul (k : Rat)).add (pgk1.mul pr))).sub (pgk.mul (pT.sub (ph.mul ps)))
        · -- the slope of g
          have dg : ∃ g1, df g g1 ∧ ∀ x, h x * g1 x = k * (h x ^ k * (h1 x * gk x)) + h x ^ k * (h x * gk1 x) := by
            rcases Nat.eq_zero_or_pos k with e | e
            · subst e
              refine ⟨gk1, dgk.congr (fun x => by rw [egk]; grind) (fun x => rfl), fun x => by grind⟩
            · obtain ⟨j, rfl⟩ : ∃ j, k = j + 1 := ⟨k - 1, by omega⟩
              obtain ⟨a1, a2⟩ := df.powf dh ph.lp j
              refine ⟨_, (a1.mul dgk a2 pgk.lp).congr egk (fun x => rfl), fun x => ?_⟩
              have e : ((j + 1 : Nat) : Rat) = j + 1 := by push_cast; rfl
              rw [e, Rat.pow_succ]
              grind
          obtain ⟨g1, dg1, eg1⟩ := dg
          have e1 := dp.uniq ((dg1.mul dS pg.lp pS.lp).congr hp (fun x => rfl)) x
          rw [hp1, hS, hS1] at e1
          have e2 := eg1 x
          have e3 := egk x
          have e4 := hy x
          -- g1 h r = g (T - h s)
          have e5 : g1 x * (h x * r x) = g x * (T x - h x * s x) := by grind
          have e6 : g1 x * (h x * r x) = (k * (h x ^ k * (h1 x * gk x)) + h x ^ k * (h x * gk1 x)) * r x := by grind
          rw [e3] at e5
          generalize h x ^ k = Hk at *
          have e7 : h1 x * gk x * r x = h x * (s x - r1 x) * gk x := by grind
          grind
        · obtain ⟨n, phn⟩ := ph
          rcases phn.dich with hz | ⟨d, _, hd⟩
          · obtain ⟨x, hx⟩ := h0; exact absurd (hz x) hx
          · obtain ⟨B, _, hB⟩ := (hd.pow k).far
            exact ⟨B, hB B Rat.le_refl⟩
      refine ⟨fun x => W x * ((k * ((s x - r1 x) * gk x) + gk1 x * r x) + gk x * s x) + gk x * (U x * r x), ?_, fun x => ?_⟩
      · exact (pW.mul (((((ps.sub pr1).mul pgk).smul (k : Rat)).add (pgk1.mul pr)).add (pgk.mul ps))).add (pgk.mul (pU.mul pr))
      · have e1 := hz x
        have e2 := bz x
        rw [hS] at e2
        rw [egk, Rat.pow_succ]
        have e3 : gk x = h x * (W x * ((k * ((s x - r1 x) * gk x) + gk1 x * r x) + gk x * s x) + gk x * (U x * r x)) := by
          generalize (k * ((s x - r1 x) * gk x) + gk1 x * r x) = Z at *
          grind
        generalize W x * ((k * ((s x - r1 x) * gk x) + gk1 x * r x) + gk x * s x) + gk x * (U x * r x) = Y at *
        rw [e3]; grind
  -- degrees
  obtain ⟨n, phn⟩ := ph
  rcases phn.dich with hz | ⟨d, _, hd⟩
  · obtain ⟨x, hx⟩ := h0; exact absurd (hz x) hx
  · rcases Nat.eq_zero_or_pos d with e | e
    · subst e; exact hd
    · exfalso
      obtain ⟨m, pgm⟩ := pg
      obtain ⟨gk, pgk, egk⟩ := key m
      rcases pgm.dich with hz | ⟨e1, e2, e3⟩
      · obtain ⟨x, hx⟩ := g0; exact absurd (hz x) hx
      · obtain ⟨l, pgl⟩ := pgk
        rcases pgl.dich with hz | ⟨f1, _, f3⟩
        · obtain ⟨x, hx⟩ := g0
          apply hx; rw [egk, hz]; grind
        · have := ((hd.pow m).mul f3).congr egk
          have h4 := this.eq e3
          have : m ≤ d * m := Nat.le_mul_of_pos_left m e
          omega
/-- two common divisors that both are sums of multiples of the same two are multiples of one another -/
theorem gcd_prop {f1 f2 g G a1 a2 b1 b2 u w U W : Rat → Rat} (pg : pl g) (pG : pl G) (pa1 : pl a1) (pa2 : pl a2) (pb1 : pl b1) (pb2 : pl b2) (pu : pl u) (pw : pl w) (pU : pl U) (pW : pl W) (h1 : ∀ x, f1 x = g x * a1 x) (h2 : ∀ x, f2 x = g x * a2 x) (h3 : ∀ x, g x = u x * f1 x + w x * f2 x) (k1 : ∀ x, f1 x = G x * b1 x) (k2 : ∀ x, f2 x = G x * b2 x) (k3 : ∀ x, G x = U x * f1 x + W x * f2 x) (g0 : ∃ x, g x ≠ 0) : ∃ c : Rat, c ≠ 0 ∧ ∀ x, G x = c * g x := by
  -- g = G L, G = g M
  have e1 : ∀ x, g x = G x * (u x * b1 x + w x * b2 x) := fun x => by have := h3 x; rw [k1, k2] at this; grind
  have e2 : ∀ x, G x = g x * (U x * a1 x + W x * a2 x) := fun x => by have := k3 x; rw [h1, h2] at this; grind
  have pL : pl (fun x => u x * b1 x + w x * b2 x) := (pu.mul pb1).add (pw.mul pb2)
  have pM : pl (fun x => U x * a1 x + W x * a2 x) := (pU.mul pa1).add (pW.mul pa2)
  obtain ⟨n, hn⟩ := pg
  obtain ⟨l, hl⟩ := pL
  obtain ⟨m, hm⟩ := pM
  obtain ⟨x0, hx0⟩ := g0
  rcases hn.dich with z | ⟨d, _, hd⟩
  · exact absurd (z x0) hx0
  rcases hl.dich with z | ⟨dl, _, hdl⟩
  · exact absurd (by rw [e1, z]; grind) hx0
  rcases hm.dich with z | ⟨dm, _, hdm⟩
  · exact absurd (by rw [e1, e2, z]; grind) hx0
  have hG := (hd.mul hdm).congr e2
  have hg := (hG.mul hdl).congr e1
  have := hd.eq hg
  have hm0 : dm = 0 := by omega
  subst hm0
  obtain ⟨a, f, ha, ⟨c, hc⟩, hf⟩ := hdm
  refine ⟨a, ha, fun x => ?_⟩
  have := hf x
  rw [hc] at this
  simp only [er] at this
  rw [e2, this]; grind
