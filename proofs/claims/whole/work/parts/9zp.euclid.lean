/-! THE REFERENCE'S DIVISOR: the chain that stands behind it -/
theorem chs_go {f g : Nat} : ∀ (N : Nat) (F : Nat → Nat → Int) (d : Nat → Nat) (i sc ht : Nat), d i ≤ N → 1 ≤ i → cin F d f g i sc ht → ∃ (M : Nat) (F' : Nat → Nat → Int) (d' : Nat → Nat), i ≤ M ∧ (∀ k, k ≤ i → F' k = F k ∧ d' k = d k) ∧ chs F' d' f g M := by
  intro N
  induction N with
  | zero => exact fun F d i sc ht h1 h2 h3 => ⟨i, F, d, Nat.le_refl _, fun k _ => ⟨rfl, rfl⟩, sc, ht, h3, Or.inl (by omega)⟩
  | succ N ih =>
    intro F d i sc ht h1 h2 h3
    rcases Nat.eq_zero_or_pos (d i) with h0 | h0
    · exact ⟨i, F, d, Nat.le_refl _, fun k _ => ⟨rfl, rfl⟩, sc, ht, h3, Or.inl h0⟩
    by_cases hz : ∀ e, lw (F (i - 1)) (F i) (d (i - 1)) (d i) (d (i - 1) - d i + 1) e = 0
    · exact ⟨i, F, d, Nat.le_refl _, fun k _ => ⟨rfl, rfl⟩, sc, ht, h3, Or.inr hz⟩
    have hba := (cin_ba h3 h2).1
    have hw : ∃ w : Nat → Int, ∀ e, w e = -((lw (F (i - 1)) (F i) (d (i - 1)) (d i) (d (i - 1) - d i + 1) e).tdiv ((sc * ht ^ (d (i - 1) - d i) : Nat) : Int)) := ⟨_, fun _ => rfl⟩
    obtain ⟨w, hw⟩ := hw
    have hwz : ∀ e, d i ≤ e → w e = 0 := fun e he => by
      rw [hw, lw_zero (h3.1 (i - 1) (by omega)).1 (h3.1 i (Nat.le_refl _)).1 hba _ (Nat.le_refl _) e (by omega), Int.zero_tdiv]; rfl
    have ht0 : 0 < top w (d i) := by
      rcases Nat.eq_zero_or_pos (top w (d i)) with h4 | h4
      · exfalso
        refine hz (fun e => ?_)
        have h5 : w e = 0 := by
          rcases Nat.lt_or_ge e (d i) with h6 | h6
          · exact top_z w (d i) e (by omega) h6
          · exact hwz e h6
        rw [hw] at h5
        rw [← (cin_exact h3 h2 h0 e).1, show (lw (F (i - 1)) (F i) (d (i - 1)) (d i) (d (i - 1) - d i + 1) e).tdiv ((sc * ht ^ (d (i - 1) - d i) : Nat) : Int) = 0 by omega, Int.mul_zero]
      · exact h4
    have htl := top_le w (d i)
    have hc := top_ne ht0
    have hcz : ∀ e, top w (d i) - 1 < e → w e = 0 := fun e he => by
      rcases Nat.lt_or_ge e (d i) with h6 | h6
      · exact top_z w (d i) e (by omega) h6
      · exact hwz e h6
    have h4 := cin_next h3 h2 h0 hw hc hcz
    obtain ⟨M, F', d', g1, g2, g3⟩ := ih _ _ (i + 1) _ _ (by show (if i + 1 = i + 1 then _ else _) ≤ N; rw [if_pos rfl]; omega) (by omega) h4
    refine ⟨M, F', d', by omega, fun k hk => ?_, g3⟩
    obtain ⟨x1, x2⟩ := g2 k (by omega)
    rw [x1, x2]
    exact ⟨if_neg (by omega), if_neg (by omega)⟩
/-- every pair begins a chain -/
theorem chs_ex {P Q : Nat → Int} {n m f g : Nat} (h0 : ∀ c, n < c → P c = 0) (h1 : ∀ c, m < c → Q c = 0) (n0 : P n ≠ 0) (n1 : Q m ≠ 0) (hd : m ≤ n) (hf : l1 P (n + 1) ≤ 2 ^ f) (hg : l1 Q (m + 1) ≤ 2 ^ g) : ∃ (M : Nat) (F : Nat → Nat → Int) (d : Nat → Nat), 1 ≤ M ∧ F 0 = P ∧ F 1 = Q ∧ d 0 = n ∧ d 1 = m ∧ chs F d f g M := by
  obtain ⟨M, F, d, g1, g2, g3⟩ := chs_go (f := f) (g := g) m (fun k => if k = 0 then P else Q) (fun k => if k = 0 then n else m) 1 1 1 (Nat.le_refl _) (Nat.le_refl _) (cin_0 h0 h1 n0 n1 hd hf hg)
  exact ⟨M, F, d, g1, (g2 0 (by omega)).1, (g2 1 (by omega)).1, (g2 0 (by omega)).2, (g2 1 (by omega)).2, g3⟩
/-- both are multiples of one -/
def prp (A B : Nat → Int) : Prop := ∃ x y : Int, x ≠ 0 ∧ y ≠ 0 ∧ ∀ c, x * A c = y * B c
theorem prp.symm {A B : Nat → Int} (h : prp A B) : prp B A := by
  obtain ⟨x, y, hx, hy, e⟩ := h
  exact ⟨y, x, hy, hx, fun c => (e c).symm⟩
theorem prp.trans {A B C : Nat → Int} (h : prp A B) (g : prp B C) : prp A C := by
  obtain ⟨x, y, hx, hy, e⟩ := h
  obtain ⟨z, w, hz, hw, e'⟩ := g
  refine ⟨x * z, y * w, Int.mul_ne_zero hx hz, Int.mul_ne_zero hy hw, fun c => ?_⟩
  have a := e c
  have b := e' c
  grind
theorem prp.z {A B : Nat → Int} (h : prp A B) (c : Nat) : A c = 0 → B c = 0 := by
  obtain ⟨x, y, hx, hy, e⟩ := h
  intro h0
  have := e c
  rw [h0, Int.mul_zero] at this
  rcases Int.mul_eq_zero.1 this.symm with h | h
  · exact absurd h hy
  · exact h
theorem prp_k {A : Nat → Int} {k : Int} (hk : k ≠ 0) : prp (fun c => k * A c) A := ⟨1, k, by decide, hk, fun c => by show 1 * (k * A c) = k * A c; rw [Int.one_mul]⟩
/-- f is a multiple of the polynomial V -/
def mlt (V f : Nat → Int) : Prop := ∃ (K : Nat → Int) (t : Nat), ∀ c, f c = qs K V t c
theorem qs_pad (K V : Nat → Int) (t : Nat) (c : Nat) : ∀ s, qs (fun k => if k < t then K k else 0) V (t + s) c = qs K V t c
  | 0 => by
    have : ∀ u, u ≤ t → qs (fun k => if k < t then K k else 0) V u c = qs K V u c := by
      intro u
      induction u with
      | zero => intro _; rfl
      | succ u ih => intro hu; rw [qs, qs, ih (by omega), if_pos (by omega)]
    exact this t (Nat.le_refl _)
  | s + 1 => by
    show qs _ V (t + s + 1) c = _
    rw [qs, qs_pad K V t c s, if_neg (by omega)]
    simp
theorem qs_lin2 (K K' V : Nat → Int) (a b : Int) (c : Nat) : ∀ t, qs (fun k => a * K k + b * K' k) V t c = a * qs K V t c + b * qs K' V t c
  | 0 => by simp [qs]
  | t + 1 => by
    rw [qs, qs, qs, qs_lin2 K K' V a b c t]
    grind
theorem mlt.lin {V f g : Nat → Int} (h : mlt V f) (h' : mlt V g) (a b : Int) : mlt V (fun c => a * f c + b * g c) := by
  obtain ⟨K, t, e⟩ := h
  obtain ⟨K', t', e'⟩ := h'
  refine ⟨_, t + t', fun c => (?_ : _ = qs (fun k => a * (fun k => if k < t then K k else 0) k + b * (fun k => if k < t' then K' k else 0) k) V (t + t') c)⟩
  rw [qs_lin2, qs_pad, Nat.add_comm t t', qs_pad]
  show a * f c + b * g c = _
  rw [e c, e' c]
theorem mlt_sh (V : Nat → Int) (s : Nat) : mlt V (shP V s) := by
  refine ⟨fun k => if k = s then 1 else 0, s + 1, fun c => ?_⟩
  have : ∀ u, u ≤ s → qs (fun k => if k = s then (1 : Int) else 0) V u c = 0 := by
    intro u
    induction u with
    | zero => intro _; rfl
    | succ u ih => intro hu; rw [qs, ih (by omega), if_neg (by omega)]; simp
  rw [qs, this s (Nat.le_refl _), if_pos rfl]
  simp
theorem mlt.zero {V f : Nat → Int} {b : Nat} (hV : ∀ c, b < c → V c = 0) (hb : V b ≠ 0) (h : mlt V f) (hz : ∀ c, b ≤ c → f c = 0) : ∀ c, f c = 0 := by
  obtain ⟨K, t, e⟩ := h
  revert f
  induction t with
  | zero => intro f hz e c; rw [e c]; rfl
  | succ t ih =>
    intro f hz e
    have h1 := qs_topc (Q := K) (D := V) (b := b) (k := t) hV
    rw [← e, hz _ (by omega)] at h1
    have h2 : K t = 0 := by
      rcases Int.mul_eq_zero.1 h1.symm with h | h
      · exact h
      · exact absurd h hb
    exact ih hz (fun c => by rw [e c, qs, h2, Int.zero_mul, Int.add_zero])
theorem mlt.prp {C V f : Nat → Int} (h : mlt C f) {z w : Int} (e : ∀ c, z * C c = w * V c) : mlt V (fun c => z * f c) := by
  obtain ⟨K, t, e'⟩ := h
  refine ⟨fun k => w * K k, t, fun c => ?_⟩
  show z * f c = _
  rw [e' c]
  clear e'
  induction t with
  | zero => simp [qs]
  | succ t ih =>
    rw [qs, qs, ← ih]
    have : z * shP C t c = w * shP V t c := by
      unfold shP
      split
      · simp
      · exact e _
    grind
/-- W is what is left of a multiple of U when V is taken off -/
def rr (U V W : Nat → Int) : Prop := ∃ α : Int, α ≠ 0 ∧ mlt V (fun c => α * U c - W c)
theorem rr.uniq {U V W W' : Nat → Int} {b : Nat} (hV : ∀ c, b < c → V c = 0) (hb : V b ≠ 0) (h : rr U V W) (h' : rr U V W') (hz : ∀ c, b ≤ c → W c = 0) (hz' : ∀ c, b ≤ c → W' c = 0) : prp W W' := by
  obtain ⟨α, ha, m⟩ := h
  obtain ⟨β, hb', m'⟩ := h'
  have h1 := (m.lin m' β (-α)).zero hV hb (fun c hc => by show β * (α * U c - W c) + -α * (β * U c - W' c) = 0; rw [hz c hc, hz' c hc]; grind)
  exact ⟨β, α, hb', ha, fun c => by have : β * (α * U c - W c) + -α * (β * U c - W' c) = 0 := h1 c; grind⟩
theorem rr.prp {A C R U V : Nat → Int} (h : rr A C R) (hA : prp A U) (hC : prp C V) : ∃ k : Int, k ≠ 0 ∧ rr U V (fun c => k * R c) := by
  obtain ⟨α, ha, m⟩ := h
  obtain ⟨x, y, hx, hy, e⟩ := hA
  obtain ⟨z, w, hz, hw, e'⟩ := hC
  refine ⟨x * z, Int.mul_ne_zero hx hz, α * z * y, Int.mul_ne_zero (Int.mul_ne_zero ha hz) hy, ?_⟩
  have h1 := (m.prp e').lin (m.prp e') x 0
  obtain ⟨K, t, hk⟩ := h1
  refine ⟨K, t, fun c => ?_⟩
  rw [← hk c]
  show α * z * y * U c - x * z * R c = x * (z * (α * A c - R c)) + 0 * (z * (α * A c - R c))
  have := e c
  grind
theorem rst_rr {Q : Nat → Int} {b : Nat} {P : Nat → Int} {n : Nat} (hb : 1 ≤ b) (hQ : ∀ c, b ≤ c → Q c = 0) (hl : Q (b - 1) ≠ 0) (hP : ∀ c, n ≤ c → P c = 0) : ∀ t, rr P Q (rst Q b P n t).1 ∧ ∀ c, (rst Q b P n t).2 ≤ c → (rst Q b P n t).1 c = 0
  | 0 => ⟨⟨1, by decide, fun _ => 0, 0, fun c => by show 1 * P c - P c = 0; omega⟩, hP⟩
  | t + 1 => by
    obtain ⟨⟨α, ha, m⟩, hz⟩ := rst_rr hb hQ hl hP t
    rw [rst]
    by_cases h : (rst Q b P n t).2 < b
    · rw [if_pos h]; exact ⟨⟨α, ha, m⟩, hz⟩
    · rw [if_neg h]
      generalize (rst Q b P n t).1 = A at *
      generalize (rst Q b P n t).2 = r at *
      have hr : ∀ c, r - 1 ≤ c → rsp Q b A r c = 0 := fun c hc => by
        unfold rsp shP
        rw [if_neg (by omega)]
        by_cases e : c = r - 1
        · subst e
          rw [show r - 1 - (r - b) = b - 1 by omega, Int.mul_comm]; omega
        · rw [hz c (by omega), hQ (c - (r - b)) (by omega)]; simp
      refine ⟨⟨Q (b - 1) * α, Int.mul_ne_zero hl ha, ?_⟩, fun c hc => ?_⟩
      · have h1 := m.lin (mlt_sh Q (r - b)) (Q (b - 1)) (A (r - 1))
        obtain ⟨K, s, hk⟩ := h1
        refine ⟨K, s, fun c => ?_⟩
        rw [← hk c]
        show Q (b - 1) * α * P c - rsp Q b A r c = Q (b - 1) * (α * P c - A c) + A (r - 1) * shP Q (r - b) c
        unfold rsp
        grind
      · have hc : top (rsp Q b A r) (r - 1) ≤ c := hc
        rcases Nat.lt_or_ge c (r - 1) with h6 | h6
        · exact top_z _ (r - 1) c hc h6
        · exact hr c h6
theorem rst_bd {Q : Nat → Int} {b : Nat} {P : Nat → Int} {n u v : Nat} (hb : 1 ≤ b) (hP : ∀ c, (P c).natAbs ≤ 2 ^ u) (hQ : ∀ c, (Q c).natAbs ≤ 2 ^ v) : ∀ t, (rst Q b P n t).2 ≤ n ∧ ∀ c, ((rst Q b P n t).1 c).natAbs ≤ 2 ^ (u + (n - (rst Q b P n t).2) * (v + 1))
  | 0 => ⟨Nat.le_refl _, fun c => Nat.le_trans (hP c) (Nat.pow_le_pow_right (by omega) (Nat.le_add_right _ _))⟩
  | t + 1 => by
    obtain ⟨h1, h2⟩ := rst_bd (n := n) hb hP hQ t
    rw [rst]
    by_cases h : (rst Q b P n t).2 < b
    · rw [if_pos h]; exact ⟨h1, h2⟩
    · rw [if_neg h]
      generalize (rst Q b P n t).1 = A at *
      generalize (rst Q b P n t).2 = r at *
      have h3 := top_le (rsp Q b A r) (r - 1)
      refine ⟨by show top (rsp Q b A r) (r - 1) ≤ n; omega, fun c => ?_⟩
      show (rsp Q b A r c).natAbs ≤ 2 ^ (u + (n - top (rsp Q b A r) (r - 1)) * (v + 1))
      have hs : (shP Q (r - b) c).natAbs ≤ 2 ^ v := by
        unfold shP
        split
        · exact Nat.zero_le _
        · exact hQ _
      have h4 : (rsp Q b A r c).natAbs ≤ 2 ^ (u + (n - r) * (v + 1)) * 2 ^ v + 2 ^ v * 2 ^ (u + (n - r) * (v + 1)) := by
        unfold rsp
        refine Nat.le_trans (Int.natAbs_sub_le _ _) ?_
        rw [Int.natAbs_mul, Int.natAbs_mul]
        exact Nat.add_le_add (Nat.mul_le_mul (h2 c) (hQ _)) (Nat.mul_le_mul hs (h2 _))
      have h5 : 2 ^ (u + (n - r) * (v + 1)) * 2 ^ v + 2 ^ v * 2 ^ (u + (n - r) * (v + 1)) = 2 ^ (u + (n - r + 1) * (v + 1)) := by
        rw [Nat.mul_comm (2 ^ v), ← Nat.two_mul, ← Nat.pow_add, ← Nat.pow_succ']
        congr 1
        rw [Nat.add_mul (n - r)]; omega
      rw [h5] at h4
      refine Nat.le_trans h4 (Nat.pow_le_pow_right (by omega) (Nat.add_le_add_left (Nat.mul_le_mul_right _ (by omega)) _))
