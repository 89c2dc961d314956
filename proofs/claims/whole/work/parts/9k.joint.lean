/-! FROM A CHAIN TO ITS ROOTS -/
/-- the links as functions -/
def lk (F : Nat → Nat → Int) (d : Nat → Nat) (k : Nat) (x : Rat) : Rat := ev (F k) (d k + 1) x
theorem kt_pl {a c : Nat → Rat} {g : Nat → Rat → Rat} {gl : Rat → Rat} {m : Nat} (hg : ∀ i, i + 2 ≤ m → pl (g i)) (hl : pl gl) : ∀ t, t ≤ m → pl (kt a c g gl m t)
  | 0, _ => (pl.const 1).congr (fun x => by unfold kt; rfl)
  | 1, _ => hl.congr (fun x => by unfold kt; rfl)
  | t + 2, h => ((pl.const (1 / a (m - (t + 2)))).mul (((hg (m - (t + 2)) (by omega)).mul (kt_pl (a := a) (c := c) hg hl (t + 1) (by omega))).add ((pl.const (- c (m - (t + 2)))).mul (kt_pl (a := a) (c := c) hg hl t (by omega))))).congr (fun x => by rw [kt])
/-- as mk_chn, with polynomials -/
theorem mk_chp {a c : Nat → Rat} {g f : Nat → Rat → Rat} {gl : Rat → Rat} {m : Nat} (ha : ∀ i, i + 2 ≤ m → 0 < a i) (hc : ∀ i, i + 2 ≤ m → 0 < c i) (hg : ∀ i, i + 2 ≤ m → pl (g i)) (hgl : pl gl) (hr : ∀ i, i + 2 ≤ m → ∀ x, a i * f i x + c i * f (i + 2) x = g i x * f (i + 1) x) (hl : 1 ≤ m → ∀ x, f (m - 1) x = gl x * f m x) : ∃ k : Nat → Rat → Rat, chn k m a c g ∧ (∀ i, i ≤ m → pl (k i)) ∧ ∀ i, i ≤ m → ∀ x, f i x = f m x * k i x := by
  refine ⟨fun i => kt a c g gl m (m - i), ⟨fun i _ => (kt_pl hg hgl _ (by omega)).lp, fun i h => (hg i h).lp, ha, hc, fun i h x => ?_, fun x => ?_⟩, fun i _ => kt_pl hg hgl _ (by omega), fun i h x => ?_⟩
  · show a i * kt a c g gl m (m - i) x + c i * kt a c g gl m (m - (i + 2)) x = g i x * kt a c g gl m (m - (i + 1)) x
    obtain ⟨t, ht⟩ : ∃ t, m - i = t + 2 := ⟨m - i - 2, by omega⟩
    rw [ht, kt, show m - (i + 2) = t by omega, show m - (i + 1) = t + 1 by omega, show m - (t + 2) = i by omega]
    have := ha i h
    have : a i ≠ 0 := by grind
    generalize kt a c g gl m (t + 1) x = A at *
    generalize kt a c g gl m t x = D at *
    grind
  · show kt a c g gl m (m - m) x = 1
    rw [Nat.sub_self]; unfold kt; rfl
  · show f i x = f m x * kt a c g gl m (m - i) x
    have := kt_f ha hr hl (m - i) (by omega) x
    rw [show m - (m - i) = i by omega] at this
    exact this
theorem chn.bep {k : Nat → Rat → Rat} {m : Nat} {a c : Nat → Rat} {g : Nat → Rat → Rat} (h : chn k m a c g) (hg : ∀ i, i + 2 ≤ m → pl (g i)) : ∀ t i, i + 1 + t = m → ∃ u w : Rat → Rat, pl u ∧ pl w ∧ ∀ x, u x * k i x + w x * k (i + 1) x = 1 := by
  intro t
  induction t with
  | zero =>
    intro i hi
    refine ⟨fun _ => 0, fun _ => 1, pl.const _, pl.const _, fun x => ?_⟩
    rw [show i + 1 = m by omega, h.en]; grind
  | succ t ih =>
    intro i hi
    obtain ⟨u, w, hu, hw, e⟩ := ih (i + 1) (by omega)
    have hc := h.cp i (by omega)
    refine ⟨fun x => (-(a i / c i)) * w x, fun x => u x + (1 / c i) * (w x * g i x), pl.smul _ hw, hu.add ((hw.mul (hg i (by omega))).smul _), fun x => ?_⟩
    have e1 := e x
    have e2 := h.rc i (by omega) x
    have e3 : k (i + 2) x = (g i x * k (i + 1) x - a i * k i x) / c i := by grind
    rw [show i + 1 + 1 = i + 2 by omega, e3] at e1
    grind
theorem dvl1 {A y : Rat} (h : A ≠ 0) : y = 1 / A * y * A := by grind
theorem dvl2 {A y z w v : Rat} (h : A ≠ 0) (e : A * y + 0 * v = w * z) : y = 1 / A * w * z := by grind
theorem ev_one1 (P : Nat → Int) (x : Rat) : ev P 1 x = P 0 := by
  show (0 : Rat) + P 0 * x ^ 0 = _
  rw [Rat.pow_zero]; grind
/-- a relation of coefficients, as one of values -/
theorem rel_ev {U V Wc Q : Nat → Int} {A β : Int} {a b c : Nat} (hV : ∀ e, b < e → V e = 0) (hW : ∀ e, c < e → Wc e = 0) (hba : b ≤ a) (hca : c ≤ a) (h : ∀ e, A * U e = qs Q V (a - b + 1) e - β * Wc e) (x : Rat) : (A : Rat) * ev U (a + 1) x + β * ev Wc (c + 1) x = ev Q (a - b + 1) x * ev V (b + 1) x := by
  have h1 := ev_qs (v := V) (m := b + 1) (fun k hk => hV k (by omega)) Q x (a + 1) (a - b + 1) (by omega)
  rw [← h1, ← ev_pad (n := c + 1) (m := a + 1) (by omega) (fun k h1 h2 => hW k (by omega)) x, ← ev_lin]
  exact ev_congr (fun k _ => by have := h k; grind) x
/-- what build leaves, as a chain of functions over its last link -/
theorem chs_k {F : Nat → Nat → Int} {d : Nat → Nat} {f g M : Nat} (h : chs F d f g M) (hM : 1 ≤ M) : ∃ (a c : Nat → Rat) (gg k : Nat → Rat → Rat), chn k M a c gg ∧ (∀ i, i ≤ M → pl (k i)) ∧ (∀ i, i ≤ M → ∀ x, lk F d i x = lk F d M x * k i x) ∧ ∃ u w, pl u ∧ pl w ∧ ∀ x, u x * k 0 x + w x * k 1 x = 1 := by
  obtain ⟨sc, ht, hc, hl⟩ := h
  have hdeg : ∀ k, 1 ≤ k → k < M → d (k + 1) < d k := hc.2.2.1
  have hd10 := hc.2.1
  have hz := hc.1
  have hmono : ∀ k, k < M → d (k + 1) ≤ d k := fun k hk => by
    rcases Nat.eq_zero_or_pos k with h0 | h0
    · rw [h0]; exact hd10
    · exact Nat.le_of_lt (hdeg k h0 hk)
  have hrel : ∀ k, ∃ (A β : Int) (Q : Nat → Int), k + 2 ≤ M → 0 < A ∧ 0 < β ∧ ∀ c, A * F k c = qs Q (F (k + 1)) (d k - d (k + 1) + 1) c - β * F (k + 2) c := fun k => by
    by_cases hk : k + 2 ≤ M
    · obtain ⟨A, β, Q, h1, h2, h3⟩ := hc.2.2.2.1 k hk
      exact ⟨A, β, Q, fun _ => ⟨h1, h2, h3⟩⟩
    · exact ⟨1, 1, fun _ => 0, fun h => absurd h hk⟩
  have ⟨A, hA⟩ := Classical.axiomOfChoice hrel
  have ⟨β, hβ⟩ := Classical.axiomOfChoice hA
  have ⟨Q, hQ⟩ := Classical.axiomOfChoice hβ
  clear hA hβ hrel
  have hgl : ∃ gl : Rat → Rat, pl gl ∧ ∀ x, lk F d (M - 1) x = gl x * lk F d M x := by
    rcases hl with h0 | h0
    · have hn := (hz M (Nat.le_refl _)).2
      rw [h0] at hn
      have hn' : ((F M 0 : Int) : Rat) ≠ 0 := by
        intro h; exact hn (by exact_mod_cast h)
      refine ⟨fun x => (1 / (F M 0 : Rat)) * lk F d (M - 1) x, pl.smul _ (pl.ev _ _), fun x => ?_⟩
      have : lk F d M x = F M 0 := by unfold lk; rw [h0]; exact ev_one1 _ _
      rw [this]
      exact dvl1 hn'
    · obtain ⟨Q', hQ'⟩ := lw_rel (U := F (M - 1)) (V := F M) (a := d (M - 1)) (b := d M) (by have := hmono (M - 1) (by omega); rw [show M - 1 + 1 = M by omega] at this; exact this) (d (M - 1) - d M + 1) (Nat.le_refl _)
      have hn := (hz M (Nat.le_refl _)).2
      have hba : d M ≤ d (M - 1) := by have := hmono (M - 1) (by omega); rw [show M - 1 + 1 = M by omega] at this; exact this
      have h2 := rel_ev (U := F (M - 1)) (V := F M) (Wc := fun _ => 0) (Q := Q') (A := ((F M (d M)).natAbs : Int) ^ (d (M - 1) - d M + 1)) (β := 0) (a := d (M - 1)) (b := d M) (c := 0) (hz M (Nat.le_refl _)).1 (fun _ _ => rfl) hba (by omega) (fun e => by rw [hQ' e, h0 e]; omega)
      have hne : ((((F M (d M)).natAbs : Int) ^ (d (M - 1) - d M + 1) : Int) : Rat) ≠ 0 := by
        intro h
        have h3 : (((F M (d M)).natAbs : Int) ^ (d (M - 1) - d M + 1) : Int) = 0 := by exact_mod_cast h
        have := Int.pow_pos (n := ((F M (d M)).natAbs : Int)) (m := d (M - 1) - d M + 1) (by omega)
        omega
      generalize ((((F M (d M)).natAbs : Int) ^ (d (M - 1) - d M + 1) : Int) : Rat) = A1 at *
      refine ⟨fun x => (1 / A1) * ev Q' (d (M - 1) - d M + 1) x, pl.smul _ (pl.ev _ _), fun x => ?_⟩
      have h3 := h2 x
      show ev (F (M - 1)) (d (M - 1) + 1) x = _ * ev (F M) (d M + 1) x
      exact dvl2 hne h3
  obtain ⟨gl, pgl, egl⟩ := hgl
  obtain ⟨k, hk, pk, ek⟩ := mk_chp (f := lk F d) (m := M) (a := fun i => (A i : Rat)) (c := fun i => (β i : Rat)) (g := fun i => ev (Q i) (d i - d (i + 1) + 1)) (fun i hi => by have := (hQ i hi).1; exact_mod_cast this) (fun i hi => by have := (hQ i hi).2.1; exact_mod_cast this) (fun i _ => pl.ev _ _) pgl (fun i hi x => rel_ev (hz (i + 1) (by omega)).1 (hz (i + 2) (by omega)).1 (hmono i (by omega)) (Nat.le_trans (hmono (i + 1) (by omega)) (hmono i (by omega))) (hQ i hi).2.2 x) (fun _ => egl)
  obtain ⟨u, w, pu, pw, e⟩ := hk.bep (fun i _ => pl.ev _ _) (M - 1) 0 (by omega)
  exact ⟨_, _, _, k, hk, pk, ek, u, w, pu, pw, e⟩
/-- N counts the roots of q up to x: none far below, c far above -/
def rsx (q : Rat → Rat) (s N : Rat → Int) (c : Int) : Prop := lp q ∧ (∀ B, rct q s N B) ∧ ∃ H : Rat, 0 < H ∧ ∀ x, (x ≤ -H → N x = 0 ∧ q x ≠ 0) ∧ (H ≤ x → N x = c ∧ q x ≠ 0)
theorem sgr_ne {x : Rat} : sgr x ≠ 0 ↔ x ≠ 0 := by
  rcases sgr_r x with ⟨a, b⟩ | ⟨a, b⟩ | ⟨a, b⟩
  · rw [a]; exact ⟨fun _ h => by rw [h] at b; exact absurd b (by grind), fun _ => by decide⟩
  · rw [a]; exact ⟨fun h => absurd rfl h, fun h => absurd b h⟩
  · rw [a]; exact ⟨fun _ h => by rw [h] at b; exact absurd b (by grind), fun _ => by decide⟩
theorem sgr_pm {c : Rat} (h : c ≠ 0) : sgr c = 1 ∨ sgr c = -1 := by
  have := sgr_r c
  grind
theorem rct.scale {q : Rat → Rat} {s N : Rat → Int} {B c : Rat} (h : rct q s N B) (hc : c ≠ 0) {p : Rat → Rat} (hp : ∀ x, p x = c * q x) : rct p (fun x => sgr c * s x) N B := by
  obtain ⟨⟨d, hd, h1⟩, h2, h3⟩ := h
  have hpm := sgr_pm hc
  refine ⟨⟨d, hd, fun x y hx hy hxy hw => ?_⟩, fun x hx => ?_, fun x hx hq => ?_⟩
  · have hz : ∀ t, q t ≠ 0 → p t ≠ 0 := fun t ht hh => by
      rw [hp t] at hh
      rcases Rat.mul_eq_zero.mp hh with h | h
      · exact hc h
      · exact ht h
    rcases h1 x y hx hy hxy hw with ⟨a, b, e⟩ | ⟨a, b, e⟩
    · exact Or.inl ⟨a, by show sgr c * s y = sgr c * s x; rw [b], hz _ e⟩
    · exact Or.inr ⟨a, by show sgr c * s y = -(sgr c * s x); rw [b, Int.mul_neg], hz _ e⟩
  · have := h2 x hx
    show sgr c * s x = 1 ∨ sgr c * s x = -1
    rcases this with h | h <;> rcases hpm with g | g <;> rw [h, g] <;> decide
  · show sgr c * s x = _
    rw [hp x, sgr_m, h3 x hx (fun hh => hq (by rw [hp x, hh]; grind))]
theorem rsx.scale {q : Rat → Rat} {s N : Rat → Int} {c : Int} {b : Rat} (h : rsx q s N c) (hb : b ≠ 0) {p : Rat → Rat} (hp : ∀ x, p x = b * q x) : rsx p (fun x => sgr b * s x) N c := by
  obtain ⟨h1, h2, H, hH, h3⟩ := h
  have hz : ∀ t, q t ≠ 0 → p t ≠ 0 := fun t ht hh => by
    rw [hp t] at hh
    rcases Rat.mul_eq_zero.mp hh with h | h
    · exact hb h
    · exact ht h
  exact ⟨(h1.smul b).congr hp, fun B => (h2 B).scale hb hp, H, hH, fun x => ⟨fun hx => ⟨((h3 x).1 hx).1, hz _ ((h3 x).1 hx).2⟩, fun hx => ⟨((h3 x).2 hx).1, hz _ ((h3 x).2 hx).2⟩⟩⟩
theorem far_all {F : Nat → Nat → Int} {d : Nat → Nat} : ∀ n, (∀ k, k < n → ∀ c, d k < c → F k c = 0) → ∃ H : Rat, 0 < H ∧ ∀ k, k < n → ∀ c, ab (F k c) H
  | 0, _ => ⟨1, by grind, fun k hk => absurd hk (Nat.not_lt_zero _)⟩
  | n + 1, hz => by
    obtain ⟨H, h0, h⟩ := far_all n (fun k hk => hz k (by omega))
    obtain ⟨H', h0', h'⟩ := ab_all (F n) (d n + 1)
    refine ⟨H + H', by grind, fun k hk c => ?_⟩
    rcases Nat.lt_succ_iff_lt_or_eq.mp hk with h1 | h1
    · exact (h k h1 c).le (by grind)
    · subst h1
      by_cases hc : d k < c
      · rw [hz k (by omega) c hc]; exact ⟨by grind, by grind⟩
      · exact (h' c (by omega)).le (by grind)
theorem vr_congr {s t : Nat → Int} : ∀ {n : Nat}, (∀ k, k < n → s k = t k) → vr s n = vr t n
  | 0, _ => rfl
  | n + 1, h => by unfold vr; rw [h n (by omega), vr_congr (fun k hk => h k (by omega))]
/-- how often the sign changes far below -/
def vlo (F : Nat → Nat → Int) (d : Nat → Nat) (M : Nat) : Int := (vr (fun k => fs (-1) (d k + 1) (F k (d k))) (M + 1)).1
def vhi (F : Nat → Nat → Int) (d : Nat → Nat) (M : Nat) : Int := (vr (fun k => fs 1 (d k + 1) (F k (d k))) (M + 1)).1
theorem vx_far {F : Nat → Nat → Int} {d : Nat → Nat} {M : Nat} (hz : ∀ k, k ≤ M → (∀ c, d k < c → F k c = 0) ∧ F k (d k) ≠ 0) : ∃ H : Rat, 0 < H ∧ ∀ x, (x ≤ -H → vx (lk F d) M x = vlo F d M ∧ lk F d 0 x ≠ 0) ∧ (H ≤ x → vx (lk F d) M x = vhi F d M ∧ lk F d 0 x ≠ 0) := by
  obtain ⟨H, h0, h⟩ := far_all (F := F) (d := d) (M + 1) (fun k hk => (hz k (by omega)).1)
  refine ⟨1 + H, by grind, fun x => ⟨fun hx => ?_, fun hx => ?_⟩⟩
  · have h1 : ∀ k, k < M + 1 → sgr (lk F d k x) = fs (-1) (d k + 1) (F k (d k)) := fun k hk => by
      unfold lk
      rw [ev_bot (h k hk) (by grind) (hz k (by omega)).2]
      unfold fs
      rw [if_neg (show ¬ d k + 1 = 0 by omega)]
      by_cases e : d k % 2 = 0
      · rw [if_pos e, if_neg (show ¬ ((-1 : Int) < 0 ∧ (d k + 1) % 2 = 0) by omega)]
      · rw [if_neg e, if_pos (show ((-1 : Int) < 0 ∧ (d k + 1) % 2 = 0) by omega)]
    refine ⟨?_, sgr_ne.mp ?_⟩
    · unfold vx vlo; rw [vr_congr h1]
    · have h2 := h1 0 (by omega)
      unfold lk at h2 ⊢
      rw [ev_bot (h 0 (by omega)) (by grind) (hz 0 (by omega)).2]
      have := (hz 0 (by omega)).2
      have : (F 0 (d 0)).sign ≠ 0 := fun h => this (Int.sign_eq_zero_iff_zero.mp h)
      split <;> omega
  · have h1 : ∀ k, k < M + 1 → sgr (lk F d k x) = fs 1 (d k + 1) (F k (d k)) := fun k hk => by
      unfold lk
      rw [ev_top (h k hk) (by grind) (hz k (by omega)).2]
      unfold fs
      rw [if_neg (show ¬ d k + 1 = 0 by omega), if_neg (show ¬ ((1 : Int) < 0 ∧ (d k + 1) % 2 = 0) by omega)]
    refine ⟨?_, sgr_ne.mp ?_⟩
    · unfold vx vhi; rw [vr_congr h1]
    · unfold lk
      rw [ev_top (h 0 (by omega)) (by grind) (hz 0 (by omega)).2]
      have := (hz 0 (by omega)).2
      exact fun h => this (Int.sign_eq_zero_iff_zero.mp h)
theorem rct.congrN {q : Rat → Rat} {s N N' : Rat → Int} {B : Rat} (h : rct q s N B) (e : ∀ x, N' x = N x) : rct q s N' B := by
  have : N' = N := funext e
  rw [this]; exact h
theorem dvl3 {A y : Rat} (h : A ≠ 0) : y = 1 / A * (A * y) := by grind
theorem dvl4 {A U W X Y : Rat} (h : A ≠ 0) (e : U * X + W * Y = 1) : 1 / A * U * (A * X) + 1 / A * W * (A * Y) = 1 := by grind
theorem vr_1st (s : Nat → Int) : (vr s (0 + 1)).1 = 0 := by
  show (if s 0 = 0 then ((0, 0) : Int × Int) else (0 + (if (0 : Int) = -(s 0) then 1 else 0), s 0)).1 = 0
  by_cases h : s 0 = 0
  · rw [if_pos h]
  · rw [if_neg h, if_neg (by omega)]; rfl
/-- the whole count: a chain that begins with q and its slope and ends with a number -/
theorem chs_rsx {F : Nat → Nat → Int} {d : Nat → Nat} {f g M : Nat} (h : chs F d f g M) (hM : 1 ≤ M) (h0 : d M = 0) (h1 : ∀ c, F 1 c = dP (F 0) c) (hd0 : d 0 = d 1 + 1) : (∃ s, rsx (lk F d 0) s (fun x => vlo F d M - vx (lk F d) M x) (vlo F d M - vhi F d M)) ∧ df (lk F d 0) (lk F d 1) ∧ ∃ u w, pl u ∧ pl w ∧ ∀ x, u x * lk F d 0 x + w x * lk F d 1 x = 1 := by
  obtain ⟨a, c, gg, k, hk, pk, ek, u, w, pu, pw, e⟩ := chs_k h hM
  obtain ⟨sc, ht, hc, hl⟩ := h
  have hz := hc.1
  have hn := (hz M (Nat.le_refl _)).2
  rw [h0] at hn
  have hn' : ((F M 0 : Int) : Rat) ≠ 0 := fun h => hn (by exact_mod_cast h)
  have hcst : ∀ x, lk F d M x = F M 0 := fun x => by unfold lk; rw [h0]; exact ev_one1 _ _
  have hdf : df (lk F d 0) (lk F d 1) := (ev_df (F 0) (d 0 + 1)).congr (fun _ => rfl) (fun x => by unfold lk; rw [show d 0 + 1 - 1 = d 1 + 1 by omega]; exact ev_congr (fun k _ => h1 k) x)
  have hv : ∀ x, vx (lk F d) M x = vx k M x := fun x => vx_fac hn' (fun i hi => by rw [ek i hi x, hcst x])
  have ek' : ∀ i, i ≤ M → ∀ x, lk F d i x = F M 0 * k i x := fun i hi x => by rw [ek i hi x, hcst x]
  have hki : ∀ i, i ≤ M → ∀ x, k i x = (1 / (F M 0 : Rat)) * lk F d i x := fun i hi x => by rw [ek' i hi x]; exact dvl3 hn'
  have hdk : df (k 0) (k 1) := (df.smul (1 / (F M 0 : Rat)) hdf (ev_lp _ _)).congr (hki 0 (by omega)) (hki 1 hM)
  obtain ⟨H, hH, hfar⟩ := vx_far (F := F) (d := d) (M := M) hz
  refine ⟨⟨_, ev_lp _ _, fun B => ((hk.rct (fun _ => hdk) (vlo F d M) B).scale hn' (ek' 0 (by omega))).congrN (fun x => by rw [hv x]), H, hH, fun x => ⟨fun hx => ⟨by show vlo F d M - vx (lk F d) M x = 0; rw [((hfar x).1 hx).1]; omega, ((hfar x).1 hx).2⟩, fun hx => ⟨by show vlo F d M - vx (lk F d) M x = _; rw [((hfar x).2 hx).1], ((hfar x).2 hx).2⟩⟩⟩, hdf, fun x => (1 / (F M 0 : Rat)) * u x, fun x => (1 / (F M 0 : Rat)) * w x, pl.smul _ pu, pl.smul _ pw, fun x => ?_⟩
  have e1 := e x
  rw [ek' 0 (by omega) x, ek' 1 hM x]
  exact dvl4 hn' e1
/-- a number alone -/
theorem con_rsx {F : Nat → Nat → Int} {d : Nat → Nat} (h0 : d 0 = 0) (hn : F 0 0 ≠ 0) : ∃ s, rsx (lk F d 0) s (fun x => vlo F d 0 - vx (lk F d) 0 x) (vlo F d 0 - vhi F d 0) := by
  have hn' : ((F 0 0 : Int) : Rat) ≠ 0 := fun h => hn (by exact_mod_cast h)
  have hcst : ∀ x, lk F d 0 x = F 0 0 := fun x => by unfold lk; rw [h0]; exact ev_one1 _ _
  have hv : ∀ x, vx (lk F d) 0 x = 0 := fun x => vr_1st _
  have h1 : vlo F d 0 = 0 := vr_1st _
  have h2 : vhi F d 0 = 0 := vr_1st _
  rw [h1, h2]
  refine ⟨fun _ => sgr (F 0 0 : Rat), ev_lp _ _, fun B => ⟨⟨1, by grind, fun x y _ _ _ _ => Or.inl ⟨by show 0 - vx (lk F d) 0 y = 0 - vx (lk F d) 0 x; rw [hv, hv], rfl, by rw [hcst]; exact hn'⟩⟩, fun x _ => sgr_pm hn', fun x _ _ => by rw [hcst]⟩, 1, by grind, fun x => ⟨fun _ => ⟨by show 0 - vx (lk F d) 0 x = 0; rw [hv]; rfl, by rw [hcst]; exact hn'⟩, fun _ => ⟨by show 0 - vx (lk F d) 0 x = _; rw [hv], by rw [hcst]; exact hn'⟩⟩⟩
theorem dg_ev {P : Nat → Int} {n : Nat} (h : P n ≠ 0) : dg (ev P (n + 1)) n :=
  ⟨P n, ev P n, fun e => h (by exact_mod_cast e), pb.evl P n, fun x => by show ev P n x + P n * x ^ n = _; grind⟩
theorem den_num (c : Rat) : (c.den : Rat) * c = c.num := by
  have h1 := Rat.num_divInt_den c
  rw [Rat.divInt_eq_div] at h1
  have h2 : ((c.den : Int) : Rat) ≠ 0 := fun h => c.den_nz (by exact_mod_cast h)
  rw [show (c.den : Rat) = ((c.den : Int) : Rat) from rfl]
  generalize ((c.den : Int) : Rat) = D at *
  generalize hE : ((c.num : Int) : Rat) = E at *
  rw [← h1]
  grind
theorem lin_can {b A C E : Rat} (hb : b ≠ 0) (h : b * A = b * C + 0 * E) : C = A := by
  have h1 : b * (A - C) = 0 := by grind
  rcases Rat.mul_eq_zero.mp h1 with h | h
  · exact absurd h hb
  · grind
theorem er_int (c : Nat → Rat) : ∀ n, ∃ (b : Nat) (K : Nat → Int), 0 < b ∧ (∀ k, n ≤ k → K k = 0) ∧ ∀ x, (b : Rat) * er c n x = ev K n x
  | 0 => ⟨1, fun _ => 0, by decide, fun _ _ => rfl, fun x => by show (1 : Rat) * 0 = 0; grind⟩
  | n + 1 => by
    obtain ⟨b, K, hb, hK, h⟩ := er_int c n
    have hden : (c n).den ≠ 0 := (c n).den_nz
    have hnum : ((c n).den : Rat) * c n = (c n).num := den_num (c n)
    refine ⟨b * (c n).den, fun k => if k < n then (c n).den * K k else if k = n then b * (c n).num else 0, Nat.mul_pos hb (Nat.pos_of_ne_zero hden), fun k hk => ?_, fun x => ?_⟩
    · show (if k < n then ((c n).den : Int) * K k else if k = n then (b : Int) * (c n).num else 0) = 0
      rw [if_neg (by omega), if_neg (by omega)]
    · show ((b * (c n).den : Nat) : Rat) * (er c n x + c n * x ^ n) = ev _ n x + ((if n < n then ((c n).den : Int) * K n else if n = n then (b : Int) * (c n).num else 0 : Int) : Rat) * x ^ n
      rw [if_neg (by omega), if_pos rfl]
      have e1 : ev (fun k => if k < n then ((c n).den : Int) * K k else if k = n then (b : Int) * (c n).num else 0) n x = ((c n).den : Rat) * ev K n x := by
        have e2 := ev_lin ((c n).den : Int) 0 K (fun _ => 0) x n
        rw [ev_congr (Q := fun k => ((c n).den : Int) * K k + 0 * 0) (fun k hk => by show (if k < n then ((c n).den : Int) * K k else _) = _; rw [if_pos hk]; omega) x, e2]
        rw [show (((c n).den : Int) : Rat) = ((c n).den : Rat) from rfl]
        grind
      rw [e1, ← h x]
      rw [show ((b * (c n).den : Nat) : Rat) = (b : Rat) * ((c n).den : Rat) by exact_mod_cast rfl, show (((b : Int) * (c n).num : Int) : Rat) = (b : Rat) * ((c n).num : Rat) by exact_mod_cast rfl, ← hnum]
      generalize ((c n).den : Rat) = D
      generalize er c n x = E
      generalize x ^ n = X
      grind
/-- a factor of an integer polynomial, over a primitive one, is one itself -/
theorem int_fac {P D : Nat → Int} {n k : Nat} {k0 : Rat → Rat} (hP : ∀ c, n < c → P c = 0) (hPn : P n ≠ 0) (hD : ∀ c, k < c → D c = 0) (hDk : D k ≠ 0) (hg : gn D (k + 1) = 1) (pk : pl k0) (e : ∀ x, ev P (n + 1) x = ev D (k + 1) x * k0 x) : k ≤ n ∧ ∃ Q : Nat → Int, (∀ c, n - k < c → Q c = 0) ∧ Q (n - k) ≠ 0 ∧ (∀ c, P c = qs Q D (n - k + 1) c) ∧ ∀ x, ev Q (n - k + 1) x = k0 x := by
  have dP' := dg_ev hPn
  have dD := dg_ev hDk
  obtain ⟨m, hm⟩ := pk
  have hk0 : ∃ e, dg k0 e := by
    rcases hm.dich with h | ⟨e, -, h⟩
    · have : dg (fun _ => (0 : Rat)) n := dP'.congr (fun x => by rw [e x, h x]; grind)
      obtain ⟨B, -, hB⟩ := this.far
      exact absurd rfl (hB B (by grind))
    · exact ⟨e, h⟩
  obtain ⟨t, ht⟩ := hk0
  have hnk : n = k + t := dP'.eq ((dD.mul ht).congr e)
  have htk : t = n - k := by omega
  subst htk
  refine ⟨by omega, ?_⟩
  obtain ⟨c, hc⟩ := ht.bnd
  obtain ⟨b, K, hb, hK, hbK⟩ := er_int c (n - k + 1)
  have hprod : ∀ x, ev (qs D K (k + 1)) (n + 1) x = (b : Rat) * ev P (n + 1) x := fun x => by
    rw [ev_qs (v := K) (m := n - k + 1) (fun j hj => hK j hj) D x (n + 1) (k + 1) (by omega), e x, hc x, ← hbK x]
    generalize ev D (k + 1) x = A
    generalize er c (n - k + 1) x = C
    grind
  have hco : ∀ j, (b : Int) * P j = qs D K (k + 1) j := fun j => by
    by_cases hj : j < n + 1
    · have := ev_inj (A := fun j => (b : Int) * P j + 0 * 0) (C := qs D K (k + 1)) (n := n + 1) (fun x => by rw [hprod x, ev_lin (b : Int) 0 P (fun _ => 0) x (n + 1)]; rw [show ((b : Int) : Rat) = (b : Rat) from rfl]; grind) j hj
      rw [← this]; omega
    · rw [hP j (by omega), qs_zero (b := n - k) (fun i hi => hK i (by omega)) (by omega)]; omega
  have hdv := gauss hg b P K hb hco
  have hQ : ∀ j, ∃ z : Int, K j = b * z := fun j => hdv j
  obtain ⟨Q, hQ⟩ := Classical.axiomOfChoice hQ
  have hb0 : (b : Int) ≠ 0 := by omega
  have hQz : ∀ c, n - k < c → Q c = 0 := fun c hc => by
    have h1 := hQ c
    rw [hK c (by omega)] at h1
    rcases Int.mul_eq_zero.mp h1.symm with h | h
    · exact absurd h hb0
    · exact h
  have hbr : ((b : Nat) : Rat) ≠ 0 := fun h => hb0 (by exact_mod_cast h)
  have hQv : ∀ x, ev Q (n - k + 1) x = k0 x := fun x => by
    have h1 := hbK x
    have h2 := ev_lin (b : Int) 0 Q (fun _ => 0) x (n - k + 1)
    rw [ev_congr (Q := K) (fun j _ => by rw [hQ j]; omega) x] at h2
    rw [← h1, ← hc x, show ((b : Int) : Rat) = (b : Rat) from rfl] at h2
    exact lin_can hbr h2
  refine ⟨Q, hQz, fun h0 => ?_, fun c => ?_, hQv⟩
  · have h1 : ∀ x, k0 x = ev Q (n - k) x := fun x => by
      rw [← hQv x]
      show ev Q (n - k) x + Q (n - k) * x ^ (n - k) = _
      rw [h0]; grind
    have h2 : pb k0 (n - k) := (pb.evl Q (n - k)).congr h1
    have := ht.uniq h2
    omega
  · by_cases hj : c < n + 1
    · exact ev_inj (A := P) (C := qs Q D (n - k + 1)) (n := n + 1) (fun x => by rw [ev_qs (v := D) (m := k + 1) (fun j hj => hD j (by omega)) Q x (n + 1) (n - k + 1) (by omega), e x, hQv x]; grind) c hj
    · rw [hP c (by omega), qs_zero (b := k) hD (by omega)]
/-- Q, of degree m, is P without its repeated factors -/
def fcp (P : Nat → Int) (n : Nat) (Q : Nat → Int) (m : Nat) : Prop := m ≤ n ∧ (∀ c, m < c → Q c = 0) ∧ Q m ≠ 0 ∧ ∃ D : Nat → Int, (∀ c, n - m < c → D c = 0) ∧ D (n - m) ≠ 0 ∧ (∀ x, ev P (n + 1) x = ev D (n - m + 1) x * ev Q (m + 1) x) ∧ ∃ T U W : Rat → Rat, pl T ∧ pl U ∧ pl W ∧ (∀ x, ev (dP P) n x = ev D (n - m + 1) x * T x) ∧ ∀ x, U x * ev Q (m + 1) x + W x * T x = 1
theorem ev_ne0 {P : Nat → Int} {n : Nat} (h : P n ≠ 0) : ∃ x, ev P (n + 1) x ≠ 0 := by
  obtain ⟨B, -, hB⟩ := (dg_ev h).far
  exact ⟨B, hB B (by grind)⟩
theorem alg1 {d u q w t p p1 : Rat} (e1 : p = d * q) (e2 : p1 = d * t) (e3 : u * q + w * t = 1) : d = u * p + w * p1 := by
  subst e1 e2
  have : d = d * (u * q + w * t) := by rw [e3]; grind
  grind
/-- two such parts are multiples of one another -/
theorem fcp_uniq {P Q Q' : Nat → Int} {n m m' : Nat} (h : fcp P n Q m) (h' : fcp P n Q' m') : m' = m ∧ ∃ c : Rat, c ≠ 0 ∧ ∀ x, ev Q' (m' + 1) x = c * ev Q (m + 1) x := by
  obtain ⟨h1, h2, h3, D, h4, h5, h6, T, U, W, pT, pU, pW, h7, h8⟩ := h
  obtain ⟨g1, g2, g3, E, g4, g5, g6, T', U', W', pT', pU', pW', g7, g8⟩ := h'
  obtain ⟨c, hc, hE⟩ := gcd_prop (g := ev D (n - m + 1)) (G := ev E (n - m' + 1)) (f1 := ev P (n + 1)) (f2 := ev (dP P) n) (a1 := ev Q (m + 1)) (a2 := T) (b1 := ev Q' (m' + 1)) (b2 := T') (u := U) (w := W) (U := U') (W := W') (pl.ev _ _) (pl.ev _ _) (pl.ev _ _) pT (pl.ev _ _) pT' pU pW pU' pW' h6 h7 (fun x => alg1 (h6 x) (h7 x) (h8 x)) g6 g7 (fun x => alg1 (g6 x) (g7 x) (g8 x)) (ev_ne0 h5)
  have hm : n - m = n - m' := (dg_ev g5).eq (((dg_ev h5).mul (f := ev D (n - m + 1)) (g := fun _ => c) (m := 0) ⟨c, fun _ => 0, hc, pb.zero 0, fun x => by rw [Rat.pow_zero]; grind⟩).congr (fun x => by rw [hE x]; grind)) |>.symm
  have hm' : m' = m := by omega
  refine ⟨hm', 1 / c, fun h => ?_, fun x => ?_⟩
  · have : c * (1 / c) = 1 := by grind
    rw [h] at this
    grind
  · have hz := pl.cancel (f := fun x => c * ev Q' (m' + 1) x - ev Q (m + 1) x) (g := ev D (n - m + 1)) (((pl.ev _ _).smul c).sub (pl.ev _ _)) (pl.ev _ _) (fun x => by
      have e1 := h6 x
      have e2 := g6 x
      rw [hE x] at e2
      rw [e1] at e2
      generalize ev D (n - m + 1) x = A at *
      generalize ev Q (m + 1) x = C at *
      generalize ev Q' (m' + 1) x = C' at *
      grind) (ev_ne0 h5) x
    have hz' : c * ev Q' (m' + 1) x - ev Q (m + 1) x = 0 := hz
    generalize ev Q (m + 1) x = C at *
    generalize ev Q' (m' + 1) x = C' at *
    clear hz hE
    have h9 : c * (C' - 1 / c * C) = 0 := by grind
    rcases Rat.mul_eq_zero.mp h9 with h | h
    · exact absurd h hc
    · grind
/-- a common factor of Q and its slope is a number -/
theorem fcp_sq {P Q : Nat → Int} {n m : Nat} (h : fcp P n Q m) {hh r s : Rat → Rat} (ph : pl hh) (pr : pl r) (ps : pl s) (e1 : ∀ x, ev Q (m + 1) x = hh x * r x) (e2 : ∀ x, ev (dP Q) m x = hh x * s x) : dg hh 0 := by
  obtain ⟨h1, h2, h3, D, h4, h5, h6, T, U, W, pT, pU, pW, h7, h8⟩ := h
  exact sqfree (p := ev P (n + 1)) (p1 := ev (dP P) n) (g := ev D (n - m + 1)) (S := ev Q (m + 1)) (T := T) (U := U) (W := W) (S1 := ev (dP Q) m) (pl.ev _ _) (pl.ev _ _) pT pU pW ph pr ps h6 (ev_df P (n + 1)) h7 h8 (ev_df Q (m + 1)) e1 e2 (ev_ne0 h5)
/-- no repeated factor -/
theorem prep_a {F : Nat → Nat → Int} {d : Nat → Nat} {f g M : Nat} (h : chs F d f g M) (hM : 1 ≤ M) (h1 : ∀ c, F 1 c = dP (F 0) c) (hd0 : d 0 = d 1 + 1) (h0 : d M = 0) : fcp (F 0) (d 0) (F 0) (d 0) := by
  obtain ⟨-, hdf, u, w, pu, pw, e⟩ := chs_rsx h hM h0 h1 hd0
  obtain ⟨sc, ht, hc, -⟩ := h
  have hz := hc.1 0 (by omega)
  refine ⟨Nat.le_refl _, hz.1, hz.2, fun c => if c = 0 then 1 else 0, fun c hc => if_neg (by omega), ?_, fun x => ?_, ev (dP (F 0)) (d 0), u, w, pl.ev _ _, pu, pw, fun x => ?_, fun x => ?_⟩
  · show (if d 0 - d 0 = 0 then (1 : Int) else 0) ≠ 0
    rw [if_pos (by omega)]; decide
  · rw [Nat.sub_self, ev_one1]
    show _ = (((if 0 = 0 then (1 : Int) else 0) : Int) : Rat) * _
    rw [if_pos rfl, show ((1 : Int) : Rat) = 1 from rfl]; grind
  · rw [Nat.sub_self, ev_one1]
    show _ = (((if 0 = 0 then (1 : Int) else 0) : Int) : Rat) * _
    rw [if_pos rfl, show ((1 : Int) : Rat) = 1 from rfl]; grind
  · have := e x
    unfold lk at this
    rw [ev_congr (P := F 1) (Q := dP (F 0)) (fun k _ => h1 k) x] at this
    rw [hd0] at this ⊢
    exact this
theorem gn_ex {A : Nat → Int} {k : Nat} (h : A k ≠ 0) : 0 < gn A (k + 1) ∧ (∀ c, c ≤ k → A c = gn A (k + 1) * (A c).tdiv (gn A (k + 1))) ∧ gn (fun c => (A c).tdiv (gn A (k + 1))) (k + 1) = 1 := by
  have hp : 0 < gn A (k + 1) := by
    rcases Nat.eq_zero_or_pos (gn A (k + 1)) with h0 | h0
    · have := gn_of (P := A) (k + 1) k (by omega)
      rw [h0] at this
      have := Nat.eq_zero_of_zero_dvd this
      omega
    · exact h0
  have hd : ∀ c, c ≤ k → A c = gn A (k + 1) * (A c).tdiv (gn A (k + 1)) := fun c hc => by
    have h1 : ((gn A (k + 1) : Nat) : Int) ∣ A c := idvd.mpr (gn_of (k + 1) c (by omega))
    exact (Int.mul_tdiv_cancel' h1).symm
  refine ⟨hp, hd, ?_⟩
  generalize hG : gn A (k + 1) = G at *
  have h2 : G * gn (fun c => (A c).tdiv (G : Int)) (k + 1) ∣ gn A (k + 1) := gn_ldvd (k + 1) (fun c hc => by
    have h3 := gn_of (P := fun c => (A c).tdiv (G : Int)) (k + 1) c hc
    have h4 := hd c (by omega)
    have h5 : (A c).natAbs = G * ((A c).tdiv (G : Int)).natAbs := by
      have := congrArg Int.natAbs h4
      rw [Int.natAbs_mul, Int.natAbs_natCast] at this
      exact this
    rw [h5]
    exact Nat.mul_dvd_mul_left G h3)
  rw [hG] at h2
  have h6 : G * gn (fun c => (A c).tdiv (G : Int)) (k + 1) ∣ G * 1 := by rw [Nat.mul_one]; exact h2
  have := Nat.dvd_of_mul_dvd_mul_left hp h6
  exact Nat.dvd_one.mp this
/-- with repeated factors: D is the last link over its numbers' divisor -/
theorem prep_b {F : Nat → Nat → Int} {d : Nat → Nat} {f g M : Nat} (h : chs F d f g M) (hM : 1 ≤ M) (h1 : ∀ c, F 1 c = dP (F 0) c) (hd0 : d 0 = d 1 + 1) {D : Nat → Int} (hD : ∀ c, D c = (F M c).tdiv (gn (F M) (d M + 1))) : (∀ c, d M < c → D c = 0) ∧ D (d M) ≠ 0 ∧ d M ≤ d 0 ∧ ∃ Q : Nat → Int, (∀ c, F 0 c = qs Q D (d 0 - d M + 1) c) ∧ fcp (F 0) (d 0) Q (d 0 - d M) := by
  obtain ⟨a, c, gg, k, hk, pk, ek, u, w, pu, pw, e⟩ := chs_k h hM
  obtain ⟨sc, ht, hc, -⟩ := h
  have hz := hc.1
  obtain ⟨g1, g2, g3⟩ := gn_ex (hz M (Nat.le_refl _)).2
  generalize hG : gn (F M) (d M + 1) = G at *
  have hDz : ∀ c, d M < c → D c = 0 := fun c hc => by rw [hD c, (hz M (Nat.le_refl _)).1 c hc, Int.zero_tdiv]
  have hDn : D (d M) ≠ 0 := fun h => by
    have h2 := g2 (d M) (Nat.le_refl _)
    rw [← hD, h] at h2
    exact (hz M (Nat.le_refl _)).2 (by rw [h2]; omega)
  have hgn : gn D (d M + 1) = 1 := by rw [show D = fun c => (F M c).tdiv (G : Int) from funext hD]; exact g3
  have hDv : ∀ x, lk F d M x = (G : Rat) * ev D (d M + 1) x := fun x => by
    have h2 := ev_lin (G : Int) 0 D (fun _ => 0) x (d M + 1)
    rw [ev_congr (Q := F M) (fun j hj => by have := g2 j (by omega); rw [← hD j] at this; omega) x] at h2
    unfold lk
    rw [h2, show ((G : Int) : Rat) = (G : Rat) from rfl]; grind
  have hG0 : (G : Rat) ≠ 0 := fun h => by
    have : G = 0 := by exact_mod_cast h
    omega
  obtain ⟨hle, Q, hQz, hQn, hPQ, hQv⟩ := int_fac (P := F 0) (D := D) (n := d 0) (k := d M) (k0 := fun x => (G : Rat) * k 0 x) (hz 0 (by omega)).1 (hz 0 (by omega)).2 hDz hDn hgn ((pk 0 (by omega)).smul _) (fun x => by
    have := ek 0 (by omega) x
    rw [hDv x] at this
    unfold lk at this
    rw [this]; grind)
  have hnm : d 0 - (d 0 - d M) = d M := by omega
  refine ⟨hDz, hDn, hle, Q, hPQ, by omega, hQz, hQn, D, by rw [hnm]; exact hDz, by rw [hnm]; exact hDn, fun x => ?_, fun x => (G : Rat) * k 1 x, fun x => (1 / (G : Rat)) * u x, fun x => (1 / (G : Rat)) * w x, (pk 1 hM).smul _, pu.smul _, pw.smul _, fun x => ?_, fun x => ?_⟩
  · rw [hnm, hQv x]
    have := ek 0 (by omega) x
    rw [hDv x] at this
    unfold lk at this
    rw [this]; grind
  · rw [hnm]
    have := ek 1 hM x
    rw [hDv x] at this
    unfold lk at this
    rw [← ev_congr (P := F 1) (Q := dP (F 0)) (n := d 0) (fun k _ => h1 k) x, hd0, this]; grind
  · rw [hQv x]
    exact dvl4 hG0 (e x)
/-- the chain of Q ends with a number -/
theorem prep_c {P Q : Nat → Int} {n m : Nat} (hf : fcp P n Q m) {F : Nat → Nat → Int} {d : Nat → Nat} {f g M : Nat} (h : chs F d f g M) (hM : 1 ≤ M) (hF0 : F 0 = Q) (hF1 : ∀ c, F 1 c = dP (F 0) c) (hd0 : d 0 = m) (hd1 : d 0 = d 1 + 1) : d M = 0 := by
  obtain ⟨a, c, gg, k, hk, pk, ek, u, w, pu, pw, e⟩ := chs_k h hM
  obtain ⟨sc, ht, hc, -⟩ := h
  have h2 := fcp_sq hf (hh := lk F d M) (r := k 0) (s := k 1) (pl.ev _ _) (pk 0 (by omega)) (pk 1 hM) (fun x => by rw [← ek 0 (by omega) x]; unfold lk; rw [hF0, hd0]) (fun x => by rw [← ek 1 hM x]; unfold lk; rw [ev_congr (fun k _ => hF1 k) x, hF0, show d 1 + 1 = m by omega])
  exact (dg_ev (hc.1 M (Nat.le_refl _)).2).eq h2
