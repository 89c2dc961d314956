/-! QUERY: what fits -/
/-- everything of a sign at a root fits: q of degree m, the other polynomial of degree e and b bits -/
def sok (m e b : Nat) : Prop := okc (fbm m + 3 + b) (fbm m) (m - 1 + e) m ∧ b + 3 + 605 * (e - 1) ≤ 4277 ∧ b / 31 + 1 + 572 * e / 31 + 1 ≤ 159 ∧ ∀ k, k < m → (m - k) * (2 * fbm m + 3 + b) + (e - 1) * fbm m + 3 + 605 * (k - 1) ≤ 4277 ∧ ((m - k) * (2 * fbm m + 3 + b) + (e - 1) * fbm m) / 31 + 1 + 572 * k / 31 + 1 ≤ 159
theorem fitX {G : Nat → Int} {b e ex : Nat} {X : Int} (hG : ∀ c, (G c).natAbs ≤ 2 ^ b) (he : e ≤ 8) (hb : b + 3 + 605 * (e - 1) ≤ 4277) (hX : X.natAbs ≤ 2 ^ 605) (hE : ex ≤ 605) : ∀ i, i ≤ e → ((hv G e X ex i).natAbs : Int) < 2147483648 ^ 138 := by
  intro i hi
  rcases Nat.eq_zero_or_pos i with h0 | h0
  · subst h0
    show ((0 : Int).natAbs : Int) < _
    exact ip_pos (by decide) _
  have h1 := hv_bd (n := e) hG hX hE i
  have h2 : i * 2 ^ (b + 605 * (i - 1)) ≤ 2 ^ (3 + (b + 605 * (i - 1))) := by
    rw [Nat.pow_add 2 3]
    exact Nat.mul_le_mul_right _ (by omega)
  have h3 := Nat.mul_le_mul_left 605 (show i - 1 ≤ e - 1 by omega)
  exact lim_up (lim_ofI (Nat.le_trans h1 h2)) (by omega)
theorem l1_add (f g : Nat → Int) : ∀ n, l1 (fun c => f c + g c) n ≤ l1 f n + l1 g n
  | 0 => Nat.le_refl _
  | n + 1 => by
    have h := l1_add f g n
    have h2 := Int.natAbs_add_le (f n) (g n)
    simp only [l1]
    omega
theorem l1_smul (a : Int) (f : Nat → Int) : ∀ n, l1 (fun c => a * f c) n = a.natAbs * l1 f n
  | 0 => by simp [l1]
  | n + 1 => by
    have h := l1_smul a f n
    simp only [l1]
    rw [h, Int.natAbs_mul, Nat.mul_add]
theorem l1_shle {D : Nat → Int} {n : Nat} (hz : ∀ c, n < c → D c = 0) (t N : Nat) : l1 (shP D t) N ≤ l1 D (n + 1) := by
  have h1 := l1_mono (shP D t) (show N ≤ N + t by omega)
  rw [l1_sh] at h1
  exact Nat.le_trans h1 (l1_top (fun c hc => hz c (by omega)) N)
/-- a product is not larger than the factors together -/
theorem l1_qs {A D : Nat → Int} {n : Nat} (hz : ∀ c, n < c → D c = 0) (N : Nat) : ∀ t, l1 (qs A D t) N ≤ l1 A t * l1 D (n + 1)
  | 0 => by
    have : ∀ N, l1 (qs A D 0) N = 0 := by
      intro N
      induction N with
      | zero => rfl
      | succ N ih => simp only [l1]; rw [ih]; rfl
    rw [this]
    exact Nat.zero_le _
  | t + 1 => by
    have h := l1_qs (A := A) hz N t
    have h2 := l1_add (qs A D t) (fun c => A t * shP D t c) N
    rw [l1_smul] at h2
    have h3 := Nat.mul_le_mul_left (A t).natAbs (l1_shle hz t N)
    have e1 : l1 A (t + 1) = l1 A t + (A t).natAbs := rfl
    rw [e1, Nat.add_mul]
    have e2 : l1 (qs A D (t + 1)) N = l1 (fun c => qs A D t c + A t * shP D t c) N := rfl
    rw [e2]
    omega
theorem qs_lead {A D : Nat → Int} {m n : Nat} (hz : ∀ c, n < c → D c = 0) : qs A D (m + 1) (m + n) = A m * D n := by
  show qs A D m (m + n) + A m * shP D m (m + n) = _
  rw [qs_0 hz m (by omega)]
  unfold shP
  rw [if_neg (by omega), show m + n - m = n by omega, Int.zero_add]
theorem gch.l1s {P : Nat → Int} {n M : Nat} {F : Nat → Nat → Int} {d : Nat → Nat} (h : gch P n M F d) (hd : 1 ≤ d 0) : 1 ≤ M ∧ l1 (F 0) (d 0 + 1) ≤ 2 ^ fbm (d 0) ∧ l1 (F 1) (d 1 + 1) ≤ 2 ^ (fbm (d 0) + 3) ∧ d 0 = d 1 + 1 := by
  obtain ⟨h1, h2, h3, h4, h5⟩ := h
  rcases h5 with ⟨a1, a2, a3, a4⟩ | ⟨a1, a2, ⟨f, g, hf, hg, a3⟩, a4, a5, a6, a7⟩
  · omega
  · obtain ⟨sc, ht, hc, -⟩ := a3
    exact ⟨a2, Nat.le_trans hc.2.2.2.2.2.2.2.2.2.1 (Nat.pow_le_pow_right (by omega) hf), Nat.le_trans hc.2.2.2.2.2.2.2.2.2.2.1 (Nat.pow_le_pow_right (by omega) hg), a6⟩
theorem con_sga {q : Rat → Rat} {N : Rat → Int} {i z : Int} (hp : pla (rb q N B0 i)) {g : Rat → Rat} (hg : ∀ x, g x = z) (hz : z ≠ 0) : sga q N i g z.sign := by
  obtain ⟨x, y, hb, -⟩ := hp.2.2.1 1 (by grind)
  right
  have hs : z.sign = 1 ∨ z.sign = -1 := by
    have := Int.sign_trichotomy z
    have : z.sign ≠ 0 := fun h => hz (Int.sign_eq_zero_iff_zero.1 h)
    omega
  refine ⟨hs, x, y, hb, (z.natAbs : Int), ?_, fun t _ _ => ?_⟩
  · exact Rat.intCast_pos.2 (by omega)
  · rw [hg t, ← Rat.intCast_mul, Int.mul_comm, sgn_abs]
    exact Rat.le_refl
/-- the links behind the first one, at a point of a cell -/
theorem chs_fit {F : Nat → Nat → Int} {d : Nat → Nat} {M m e b : Nat} (h : chs F d (fbm m + 3 + b) (fbm m) M) (hd0 : d 0 = m - 1 + e) (hd1 : d 1 = m) (hm : 1 ≤ m) (he : 1 ≤ e) (hm8 : m ≤ 8) (ok : sok m e b) {X : Int} {ex : Nat} (hX : X.natAbs ≤ 2 ^ 605) (hE : ex ≤ 572) : ∃ c : Nat → Nat, (∀ k, 1 ≤ k → k < M + 1 → ∀ j, j ≤ d k → ((F k j).natAbs : Int) < 2147483648 ^ c k) ∧ (∀ k, 1 ≤ k → k < M + 1 → ∀ i, i ≤ d k → ((hv (F k) (d k) X ex i).natAbs : Int) < 2147483648 ^ 138) ∧ ∀ k, 1 ≤ k → k < M + 1 → c k + ex * d k / 31 + 1 ≤ 159 := by
  obtain ⟨sc, ht, hc, -⟩ := h
  have hb1 := hc.2.2.2.2.2.2.2.2.2.2.1
  have hbk := hc.2.2.2.2.2.2.2.2.2.2.2.1
  have hdeg := cin_deg hc
  obtain ⟨o1, o2, o3, o4⟩ := ok
  have bits : ∀ k, 1 ≤ k → k < M + 1 → ∀ c, (F k c).natAbs ≤ 2 ^ (if k = 1 then fbm m else (m - d k) * (2 * fbm m + 3 + b) + (e - 1) * fbm m) := by
    intro k k1 k2 c
    rcases Nat.eq_or_lt_of_le k1 with e1 | e1
    · subst e1
      rw [if_pos rfl]
      exact l1_all (hc.1 1 (by omega)).1 hb1 c
    · rw [if_neg (by omega)]
      refine Nat.le_trans (hbk k e1 (by omega) c) (Nat.pow_le_pow_right (by omega) ?_)
      have hlt := hc.2.2.1 (k - 1) (by omega) (by omega)
      rw [show k - 1 + 1 = k by omega] at hlt
      unfold bt
      rw [hd0, hd1]
      have x1 : (m - (d (k - 1) - 1)) * (fbm m + 3 + b) ≤ (m - d k) * (fbm m + 3 + b) := Nat.mul_le_mul_right _ (by omega)
      have x2 : (m - 1 + e - (d (k - 1) - 1)) * fbm m ≤ ((m - d k) + (e - 1)) * fbm m := Nat.mul_le_mul_right _ (by have := hdeg k (by omega) (by omega); omega)
      rw [Nat.add_mul] at x2
      have x3 : (m - d k) * (2 * fbm m + 3 + b) = (m - d k) * (fbm m + 3 + b) + (m - d k) * fbm m := by rw [← Nat.mul_add]; congr 1; omega
      omega
  refine ⟨fun k => (if k = 1 then fbm m else (m - d k) * (2 * fbm m + 3 + b) + (e - 1) * fbm m) / 31 + 1, fun k k1 k2 j _ => lim_ofI (bits k k1 k2 j), fun k k1 k2 => ?_, fun k k1 k2 => ?_⟩
  · have hdk := hdeg k k1 (by omega)
    refine fitX (bits k k1 k2) (by omega) ?_ hX (by omega)
    split
    · rename_i e1
      subst e1
      rw [hd1]
      have : ∀ m, m ≤ 8 → fbm m + 3 + 605 * (m - 1) ≤ 4277 := by unfold fbm; decide +kernel
      exact this m hm8
    · exact (o4 (d k) (by omega)).1
  · have hdk := hdeg k k1 (by omega)
    show (if k = 1 then fbm m else (m - d k) * (2 * fbm m + 3 + b) + (e - 1) * fbm m) / 31 + 1 + ex * d k / 31 + 1 ≤ 159
    have x1 := Nat.div_le_div_right (c := 31) (Nat.mul_le_mul_right (d k) hE)
    split
    · rename_i e1
      subst e1
      rw [hd1] at x1 ⊢
      have : ∀ m, m ≤ 8 → fbm m / 31 + 1 + 572 * m / 31 + 1 ≤ 159 := by unfold fbm; decide +kernel
      have := this m hm8
      omega
    · have := (o4 (d k) (by omega)).2
      omega
