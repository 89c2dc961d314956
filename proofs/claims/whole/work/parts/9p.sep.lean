/-! HOW FAR ROOTS LIE APART: fine cells hold one root at most -/
theorem ab_pow {x X : Rat} (h : ab x X) : ∀ k : Nat, ab (x ^ k) (X ^ k)
  | 0 => by rw [Rat.pow_zero, Rat.pow_zero]; unfold ab; grind
  | k + 1 => by rw [Rat.pow_succ, Rat.pow_succ]; exact (ab_pow h k).mul h
theorem ab_cancel {c a b : Rat} (hc : 0 < c) (h : ab (c * a) (c * b)) : ab a b := by
  unfold ab at *
  refine ⟨?_, Rat.le_of_mul_le_mul_left h.2 hc⟩
  refine Rat.le_of_mul_le_mul_left ?_ hc
  have := h.1
  grind
theorem ab_sq (a b : Rat) : ab (b * ((a) * (a))) (b * (a * a)) ∨ b < 0 := by
  by_cases h : b < 0
  · exact Or.inr h
  · left
    have h1 : 0 ≤ a * a := by
      rcases Rat.le_total (a := 0) (b := a) with h2 | h2
      · exact Rat.mul_nonneg h2 h2
      · have : 0 ≤ (-a) * (-a) := Rat.mul_nonneg (by grind) (by grind)
        grind
    have h3 : 0 ≤ b * (a * a) := Rat.mul_nonneg (by grind) h1
    unfold ab
    grind
theorem sq_nn (a : Rat) : 0 ≤ a * a := by
  rcases Rat.le_total (a := 0) (b := a) with h2 | h2
  · exact Rat.mul_nonneg h2 h2
  · have : 0 ≤ (-a) * (-a) := Rat.mul_nonneg (by grind) (by grind)
    grind
theorem rp_nn {X : Rat} (hX : 1 ≤ X) (k : Nat) : 0 ≤ X ^ k := Rat.pow_nonneg (by grind)
theorem nc_s (k : Nat) : ((k + 1 : Nat) : Rat) = (k : Rat) + 1 := Rat.natCast_add k 1
theorem ek_al {x y yk xk j : Rat} : yk * y * y - xk * x * x - (y - x) * ((j + 1 + 1) * (xk * x)) = y * (yk * y - xk * x - (y - x) * ((j + 1) * xk)) + (j + 1) * xk * ((y - x) * (y - x)) := by grind
theorem ek_bd {X A k q D : Rat} (hk : 0 ≤ k) (hA : 0 ≤ A) (hD : 0 ≤ D) : X * ((k * k) * A * D) + k * (X * A) * D = (k * k + k) * (X * A * D) := by grind
/-- the second order of a power -/
theorem ek {x y X : Rat} (hX : 1 ≤ X) (hx : ab x X) (hy : ab y X) : ∀ k : Nat, ab (X * X * (y ^ k - x ^ k - (y - x) * (k * x ^ (k - 1)))) ((k : Rat) * k * X ^ k * ((y - x) * (y - x)))
  | 0 => by
    rw [Rat.pow_zero, Rat.pow_zero, Rat.pow_zero]
    have : ((0 : Nat) : Rat) = 0 := rfl
    rw [this]
    unfold ab
    grind
  | 1 => by
    have e : ((1 : Nat) : Rat) = 1 := rfl
    rw [e, show (1 : Nat) - 1 = 0 from rfl, Rat.pow_zero, show (1 : Nat) = 0 + 1 from rfl, Rat.pow_succ, Rat.pow_succ, Rat.pow_succ, Rat.pow_zero, Rat.pow_zero, Rat.pow_zero]
    have h1 := Rat.mul_nonneg (show 0 ≤ X by grind) (sq_nn (y - x))
    unfold ab
    grind
  | j + 1 + 1 => by
    have ih := ek hX hx hy (j + 1)
    rw [Nat.add_sub_cancel] at ih ⊢
    rw [Rat.pow_succ (n := j + 1) (q := y), Rat.pow_succ (n := j + 1) (q := x), Rat.pow_succ (n := j + 1) (q := X)]
    rw [nc_s (j + 1), nc_s j] at *
    have h0 : (0 : Rat) ≤ (j : Rat) := Rat.natCast_nonneg
    have hs := sq_nn (y - x)
    have h1 := hy.mul ih
    have h2 : ab (((j : Rat) + 1) * (X * X * x ^ j) * ((y - x) * (y - x))) (((j : Rat) + 1) * (X * X * X ^ j) * ((y - x) * (y - x))) := by
      have a1 : ab (X * X) (X * X) := by have := Rat.mul_nonneg (show 0 ≤ X by grind) (show 0 ≤ X by grind); unfold ab; grind
      have a2 : ab ((j : Rat) + 1) ((j : Rat) + 1) := by unfold ab; grind
      have a3 : ab ((y - x) * (y - x)) ((y - x) * (y - x)) := by unfold ab; grind
      exact (a2.mul (a1.mul (ab_pow hx j))).mul a3
    have h3 := h1.add h2
    have hp := rp_nn hX j
    rw [Rat.pow_succ (n := j) (q := x), Rat.pow_succ (n := j) (q := y), Rat.pow_succ (n := j) (q := X)] at *
    generalize x ^ j = xk at *
    generalize y ^ j = yk at *
    generalize X ^ j = Xk at *
    generalize (j : Rat) = t at *
    have e1 : X * X * (yk * y * y - xk * x * x - (y - x) * ((t + 1 + 1) * (xk * x))) = y * (X * X * (yk * y - xk * x - (y - x) * ((t + 1) * xk))) + (t + 1) * (X * X * xk) * ((y - x) * (y - x)) := by
      rw [ek_al]; grind
    rw [e1]
    refine h3.le ?_
    generalize (y - x) * (y - x) = D at *
    have h4 : 0 ≤ X * X * Xk * D := Rat.mul_nonneg (Rat.mul_nonneg (Rat.mul_nonneg (by grind) (by grind)) hp) hs
    have h5 : 0 ≤ t * (X * X * Xk * D) := Rat.mul_nonneg h0 h4
    have e2 : X * ((t + 1) * (t + 1) * (Xk * X) * D) + (t + 1) * (X * X * Xk) * D = ((t + 1) * (t + 1) + (t + 1)) * (X * X * Xk * D) := by grind
    have e3 : (t + 1 + 1) * (t + 1 + 1) * (Xk * X * X) * D = ((t + 1) * (t + 1) + (t + 1)) * (X * X * Xk * D) + (t * (X * X * Xk * D) + 2 * (X * X * Xk * D)) := by grind
    rw [e2, e3]
    grind
theorem ab_int (z : Int) : ab (z : Rat) ((z.natAbs : Nat) : Rat) := by
  have h1 : ((z.natAbs : Nat) : Rat) = ((z.natAbs : Int) : Rat) := rfl
  rw [h1]
  unfold ab
  constructor
  · rw [← Rat.intCast_neg, Rat.intCast_le_intCast]; omega
  · rw [Rat.intCast_le_intCast]; omega
theorem l1c (P : Nat → Int) (n : Nat) : ((l1 P (n + 1) : Nat) : Rat) = ((l1 P n : Nat) : Rat) + (((P n).natAbs : Nat) : Rat) := Rat.natCast_add _ _
theorem ev_ab {P : Nat → Int} {x X : Rat} (hX : 1 ≤ X) (hx : ab x X) (N : Nat) : ∀ n, n ≤ N + 1 → ab (ev P n x) (((l1 P n : Nat) : Rat) * X ^ N)
  | 0, _ => by
    have : ((l1 P 0 : Nat) : Rat) = 0 := rfl
    rw [this]
    simp only [ev]
    unfold ab; grind
  | n + 1, h => by
    have ih := ev_ab hX hx N (P := P) n (by omega)
    rw [l1c]
    simp only [ev]
    have h1 := (ab_int (P n)).mul (ab_pow hx n)
    have h2 : X ^ n ≤ X ^ N := rpow_1le hX (by omega)
    have h3 := Rat.mul_le_mul_of_nonneg_left h2 (Rat.natCast_nonneg (a := (P n).natAbs))
    exact (ih.add h1).le (by grind)
/-- the second order of a polynomial -/
theorem ev_2nd {P : Nat → Int} {x y X : Rat} (hX : 1 ≤ X) (hx : ab x X) (hy : ab y X) (N : Nat) : ∀ n, n ≤ N + 1 → ab (X * X * (ev P n y - ev P n x - (y - x) * ev (dP P) (n - 1) x)) (((l1 P n : Nat) : Rat) * ((N : Rat) * N * X ^ N * ((y - x) * (y - x))))
  | 0, _ => by
    have : ((l1 P 0 : Nat) : Rat) = 0 := rfl
    have z0 : ev (dP P) (0 - 1) x = 0 := rfl
    rw [this, z0]
    simp only [ev]
    unfold ab; grind
  | n + 1, h => by
    have ih := ev_2nd hX hx hy N (P := P) n (by omega)
    have h1 := (ab_int (P n)).mul (ek hX hx hy n)
    have h2 : (n : Rat) * n * X ^ n * ((y - x) * (y - x)) ≤ (N : Rat) * N * X ^ N * ((y - x) * (y - x)) := by
      refine Rat.mul_le_mul_of_nonneg_right ?_ (sq_nn _)
      have a1 : (n : Rat) ≤ N := Rat.natCast_le_natCast.2 (by omega)
      have a2 : (0 : Rat) ≤ n := Rat.natCast_nonneg
      have a3 : (n : Rat) * n ≤ (N : Rat) * N := Rat.le_trans (Rat.mul_le_mul_of_nonneg_left a1 a2) (Rat.mul_le_mul_of_nonneg_right a1 (by grind))
      exact Rat.le_trans (Rat.mul_le_mul_of_nonneg_right a3 (rp_nn hX n)) (Rat.mul_le_mul_of_nonneg_left (rpow_1le hX (by omega)) (Rat.mul_nonneg (by grind) (by grind)))
    have h3 := Rat.mul_le_mul_of_nonneg_left h2 (Rat.natCast_nonneg (a := (P n).natAbs))
    have e : X * X * (ev P (n + 1) y - ev P (n + 1) x - (y - x) * ev (dP P) (n + 1 - 1) x) = X * X * (ev P n y - ev P n x - (y - x) * ev (dP P) (n - 1) x) + (P n : Rat) * (X * X * (y ^ n - x ^ n - (y - x) * (n * x ^ (n - 1)))) := by
      rw [Nat.add_sub_cancel]
      rcases Nat.eq_zero_or_pos n with h0 | h0
      · subst h0
        have e0 : ((0 : Nat) : Rat) = 0 := rfl
        have z0 : ev (dP P) 0 x = 0 := rfl
        rw [e0, z0]
        simp only [ev]
        grind
      · obtain ⟨k, rfl⟩ : ∃ k, n = k + 1 := ⟨n - 1, by omega⟩
        rw [Nat.add_sub_cancel]
        have e1 : ev (dP P) (k + 1) x = ev (dP P) k x + dP P k * x ^ k := rfl
        have e2 : ((dP P k : Int) : Rat) = ((k + 1 : Nat) : Rat) * (P (k + 1) : Rat) := by
          unfold dP
          rw [Rat.intCast_mul]
          rfl
        have e3 : ∀ w, ev P (k + 1 + 1) w = ev P (k + 1) w + P (k + 1) * w ^ (k + 1) := fun w => rfl
        rw [e1, e2, e3, e3]
        grind
    rw [l1c, e]
    exact (ih.add h1).le (by grind)
theorem ev_sum (A C : Nat → Int) (x : Rat) : ∀ n, ev (fun k => A k + C k) n x = ev A n x + ev C n x
  | 0 => by simp only [ev]; grind
  | n + 1 => by
    simp only [ev]
    rw [ev_sum A C x n, Rat.intCast_add]
    grind
theorem ev_single (e : Nat) (R : Int) (x : Rat) : ∀ n, ev (fun c => if c = e then R else 0) n x = if e < n then R * x ^ e else 0
  | 0 => by simp [ev]
  | n + 1 => by
    simp only [ev]
    rw [ev_single e R x n]
    have z0 : ((0 : Int) : Rat) = 0 := rfl
    by_cases h : n = e
    · rw [if_pos h, if_neg (by omega), if_pos (by omega), h]; grind
    · rw [if_neg h, z0]
      by_cases h2 : e < n
      · rw [if_pos h2, if_pos (by omega)]; grind
      · rw [if_neg h2, if_neg (by omega)]; grind
/-- bezout, as values, with a bound for the second factor -/
theorem bez_v {Q : Nat → Int} {m f g e : Nat} (hm : 1 ≤ m) (hQz : ∀ c, m < c → Q c = 0) (hQm : Q m ≠ 0) (hf : l1 Q (m + 1) ≤ 2 ^ f) (hg : l1 (dP Q) m ≤ 2 ^ g) (hR : dt (dn (m + (m - 1)) (m + (m - 1))) (srs Q (m - 1) ++ srs (dP Q) m) ≠ 0) (he : e < m + (m - 1)) : ∃ (α β : Nat → Int) (R : Int), R ≠ 0 ∧ (∀ x, ev α (m - 1) x * ev Q (m + 1) x + ev β m x * ev (dP Q) m x = R * x ^ e) ∧ l1 β m ≤ m * 2 ^ ((f + g) * (m - 1)) := by
  have hG : ∀ c, m - 1 < c → dP Q c = 0 := fun c hc => by unfold dP; rw [hQz _ (by omega), Int.mul_zero]
  obtain ⟨α, β, R, r1, r2, -, r4⟩ := bezout (F := Q) (G := dP Q) (n := m) (m := m - 1) (e := e) hQz hG he
  rw [show m - 1 + 1 = m by omega] at r4
  refine ⟨α, β, R, fun h0 => hR (by rw [h0] at r1; exact Int.natAbs_eq_zero.1 r1.symm), fun x => ?_, l1_le (fun k _ => ?_)⟩
  · have h1 := ev_qs (v := Q) (m := m + 1) (fun k hk => hQz k (by omega)) α x (m + (m - 1)) (m - 1) (by omega)
    have h2 := ev_qs (v := dP Q) (m := m) (fun k hk => hG k (by omega)) β x (m + (m - 1)) m (by omega)
    rw [← h1, ← h2, ← ev_sum, ev_congr (fun k _ => r2 k) x, ev_single, if_pos he]
  · have hL : 0 < l1 (dP Q) m := by
      have h1 := l1_ge (r := dP Q) (k := m - 1) (n := m) (by omega)
      have h2 : (dP Q (m - 1)).natAbs ≠ 0 := by
        rw [Ne, Int.natAbs_eq_zero]
        unfold dP
        rw [show m - 1 + 1 = m by omega]
        exact Int.mul_ne_zero (by omega) hQm
      omega
    have h3 := r4 k
    rw [show l1 (dP Q) m ^ m = l1 (dP Q) m ^ (m - 1) * l1 (dP Q) m by rw [← Nat.pow_succ]; congr 1; omega, ← Nat.mul_assoc] at h3
    refine Nat.le_trans (Nat.le_of_mul_le_mul_right h3 hL) ?_
    rw [Nat.add_mul, Nat.pow_add, Nat.pow_mul, Nat.pow_mul]
    exact Nat.mul_le_mul (Nat.pow_le_pow_left hf _) (Nat.pow_le_pow_left hg _)
theorem nc_le {a b : Nat} (h : a ≤ b) : (a : Rat) ≤ (b : Rat) := Rat.natCast_le_natCast.2 h
theorem sep_al {kb mb X1 X2 w : Rat} : kb * X1 * (mb * X2 * w) = kb * mb * (X1 * X2) * w := by grind
theorem sep_b {Q : Nat → Int} {m f g e : Nat} (hm : 2 ≤ m) (hm8 : m ≤ 8) (hQz : ∀ c, m < c → Q c = 0) (hQm : Q m ≠ 0) (hf : l1 Q (m + 1) ≤ 2 ^ f) (hg : l1 (dP Q) m ≤ 2 ^ g) (hR : dt (dn (m + (m - 1)) (m + (m - 1))) (srs Q (m - 1) ++ srs (dP Q) m) ≠ 0) (he : e < m + (m - 1)) {s N : Rat → Int} {B lo hi X0 : Rat} (h : rct (ev Q (m + 1)) s N B) (hl : ab lo B) (hh : ab hi B) (hlh : lo < hi) (hX : 1 ≤ X0) (hx : ∀ x, lo ≤ x → x ≤ hi → ab x (2 * X0)) (hp : ∀ x, lo ≤ x → x ≤ hi → X0 ^ (2 * m - 2) ≤ x ^ e ∨ x ^ e ≤ -X0 ^ (2 * m - 2)) (hw : (hi - lo) * ((2 ^ ((f + g) * (m - 1) + f + 2 * m + 6) : Nat) : Rat) < 1) : nm (ev Q (m + 1)) N hi ≤ N lo + 1 := by
  obtain ⟨α, β, R, r0, r1, r2⟩ := bez_v (e := e) (by omega) hQz hQm hf hg hR he
  have hX2 : (1 : Rat) ≤ 2 * X0 := by grind
  have hR1 : (1 : Rat) ≤ (R : Rat) ∨ (R : Rat) ≤ -1 := by
    rcases Int.lt_or_le R 0 with h1 | h1
    · right
      have := Rat.intCast_le_intCast.2 (show R ≤ -1 by omega)
      exact this
    · left
      exact Rat.intCast_le_intCast.2 (show 1 ≤ R by omega)
  have hc0 : 0 < X0 ^ (2 * m - 2) := Rat.pow_pos (by grind)
  refine h.sep (ev_lp _ _) (q1 := ev (dP Q) m) (α := ev α (m - 1)) (β := ev β m) (A := ((l1 α (m - 1) : Nat) : Rat) * (2 * X0) ^ m) (K := ((m * 2 ^ ((f + g) * (m - 1)) : Nat) : Rat) * (2 * X0) ^ (m - 1)) (M := ((2 ^ f * (m * m) : Nat) : Rat) * (2 * X0) ^ (m - 2)) (c := X0 ^ (2 * m - 2)) hl hh hlh (fun x a b => ev_ab hX2 (hx x a b) m (m - 1) (by omega)) (fun x a b => (ev_ab hX2 (hx x a b) (m - 1) m (by omega)).le (Rat.mul_le_mul_of_nonneg_right (nc_le r2) (rp_nn hX2 _))) hc0 (fun x a b => ?_) (fun x y a b c => ?_) (Rat.mul_nonneg Rat.natCast_nonneg (rp_nn hX2 _)) ?_
  · rw [r1 x]
    have hpx := hp x a b
    generalize x ^ e = z at *
    generalize X0 ^ (2 * m - 2) = c at *
    generalize (R : Rat) = r at *
    rcases hpx with h1 | h1 <;> rcases hR1 with h2 | h2
    · left; have := Rat.mul_le_mul_of_nonneg_right h2 (show 0 ≤ z by grind); grind
    · right; have := Rat.mul_le_mul_of_nonneg_right (show 1 ≤ -r by grind) (show 0 ≤ z by grind); grind
    · right; have := Rat.mul_le_mul_of_nonneg_right h2 (show 0 ≤ -z by grind); grind
    · left; have := Rat.mul_le_mul_of_nonneg_right (show 1 ≤ -r by grind) (show 0 ≤ -z by grind); grind
  · have h1 := ev_2nd (P := Q) hX2 (hx x a (by grind)) (hx y (by grind) c) m (m + 1) (Nat.le_refl _)
    rw [Nat.add_sub_cancel] at h1
    refine ab_cancel (c := 2 * X0 * (2 * X0)) (Rat.mul_pos (by grind) (by grind)) (h1.le ?_)
    have e1 : (2 * X0) ^ m = (2 * X0) ^ (m - 2) * (2 * X0) * (2 * X0) := by
      rw [← Rat.pow_succ, ← Rat.pow_succ]; congr 1; omega
    have h2 := nc_le hf
    have h3 : 0 ≤ (m : Rat) * m * (2 * X0) ^ m * ((y - x) * (y - x)) := Rat.mul_nonneg (Rat.mul_nonneg (Rat.mul_nonneg Rat.natCast_nonneg Rat.natCast_nonneg) (rp_nn hX2 _)) (sq_nn _)
    have h4 := Rat.mul_le_mul_of_nonneg_right h2 h3
    refine Rat.le_trans h4 ?_
    rw [Rat.natCast_mul, Rat.natCast_mul, e1]
    generalize ((2 ^ f : Nat) : Rat) = A
    generalize (2 * X0) ^ (m - 2) = C
    grind
  · rw [sep_al]
    have e1 : (2 * X0) ^ (m - 1) * (2 * X0) ^ (m - 2) = ((2 ^ (2 * m - 3) : Nat) : Rat) * X0 ^ (2 * m - 3) := by
      rw [← rpow_add, show m - 1 + (m - 2) = 2 * m - 3 by omega, rmul_pow, Rat.natCast_pow]; rfl
    rw [e1]
    have h1 : m * 2 ^ ((f + g) * (m - 1)) * (2 ^ f * (m * m)) * 2 ^ (2 * m - 3) ≤ 2 ^ ((f + g) * (m - 1) + f + 2 * m + 6) := by
      have a1 : m * (m * m) ≤ 2 ^ 9 := by
        have := Nat.mul_le_mul hm8 (Nat.mul_le_mul hm8 hm8)
        exact Nat.le_trans this (by decide)
      have a2 : m * 2 ^ ((f + g) * (m - 1)) * (2 ^ f * (m * m)) * 2 ^ (2 * m - 3) = (m * (m * m)) * (2 ^ ((f + g) * (m - 1)) * 2 ^ f * 2 ^ (2 * m - 3)) := by
        generalize 2 ^ ((f + g) * (m - 1)) = A
        generalize 2 ^ f = C
        generalize 2 ^ (2 * m - 3) = D
        grind
      rw [a2]
      refine Nat.le_trans (Nat.mul_le_mul_right _ a1) ?_
      rw [← Nat.pow_add, ← Nat.pow_add, ← Nat.pow_add]
      exact Nat.pow_le_pow_right (by omega) (by omega)
    have h2 := nc_le h1
    rw [Rat.natCast_mul, Rat.natCast_mul] at h2
    have h3 : 0 < X0 ^ (2 * m - 3) := Rat.pow_pos (by grind)
    have h4 : X0 ^ (2 * m - 3) ≤ X0 ^ (2 * m - 2) := rpow_1le hX (by omega)
    generalize ((m * 2 ^ ((f + g) * (m - 1)) : Nat) : Rat) = kb at *
    generalize ((2 ^ f * (m * m) : Nat) : Rat) = mb at *
    generalize ((2 ^ (2 * m - 3) : Nat) : Rat) = tb at *
    generalize ((2 ^ ((f + g) * (m - 1) + f + 2 * m + 6) : Nat) : Rat) = T at *
    generalize X0 ^ (2 * m - 3) = Y at *
    generalize X0 ^ (2 * m - 2) = Z at *
    have hw0 : 0 < hi - lo := by grind
    generalize hi - lo = w at *
    have h5 := Rat.mul_le_mul_of_nonneg_right h2 (show 0 ≤ w * Y from Rat.mul_nonneg (by grind) (by grind))
    have h6 := Rat.mul_lt_mul_of_pos_right hw h3
    grind
theorem neg_pow_e (x : Rat) (k : Nat) : (-x) ^ (2 * k) = x ^ (2 * k) := by
  rw [neg_pow, if_pos (by omega)]
  grind
theorem sep_a {Q : Nat → Int} {m f g : Nat} (hm : 2 ≤ m) (hm8 : m ≤ 8) (hQz : ∀ c, m < c → Q c = 0) (hQm : Q m ≠ 0) (hf : l1 Q (m + 1) ≤ 2 ^ f) (hg : l1 (dP Q) m ≤ 2 ^ g) (hR : dt (dn (m + (m - 1)) (m + (m - 1))) (srs Q (m - 1) ++ srs (dP Q) m) ≠ 0) {s N : Rat → Int} {B lo hi : Rat} (h : rct (ev Q (m + 1)) s N B) (hl : ab lo B) (hh : ab hi B) (hlh : lo < hi) (hw : (hi - lo) * ((2 ^ ((f + g) * (m - 1) + f + 2 * m + 6) : Nat) : Rat) < 1) : nm (ev Q (m + 1)) N hi ≤ N lo + 1 := by
  have hw1 : hi - lo < 1 := by
    have h1 : (1 : Rat) ≤ ((2 ^ ((f + g) * (m - 1) + f + 2 * m + 6) : Nat) : Rat) := nc_le (a := 1) (Nat.pow_pos (by omega))
    have h2 := Rat.mul_le_mul_of_nonneg_left h1 (show 0 ≤ hi - lo by grind)
    grind
  have one_p : ∀ k : Nat, (1 : Rat) ^ k = 1 := rone_pow
  by_cases c1 : -2 ≤ lo ∧ hi ≤ 2
  · refine sep_b (e := 0) (X0 := 1) hm hm8 hQz hQm hf hg hR (by omega) h hl hh hlh (by grind) (fun x a b => by unfold ab; grind) (fun x a b => ?_) hw
    left
    rw [one_p, Rat.pow_zero]
    exact Rat.le_refl
  · by_cases c2 : 1 ≤ lo
    · refine sep_b (e := 2 * m - 2) (X0 := lo) hm hm8 hQz hQm hf hg hR (by omega) h hl hh hlh c2 (fun x a b => by unfold ab; grind) (fun x a b => ?_) hw
      left
      exact rpow_le (by grind) a _
    · have c3 : 1 ≤ -hi := by grind
      refine sep_b (e := 2 * m - 2) (X0 := -hi) hm hm8 hQz hQm hf hg hR (by omega) h hl hh hlh c3 (fun x a b => by unfold ab; grind) (fun x a b => ?_) hw
      left
      have h1 := rpow_le (a := -hi) (b := -x) (by grind) (by grind) (2 * m - 2)
      rw [show 2 * m - 2 = 2 * (m - 1) by omega] at h1 ⊢
      rw [neg_pow_e x] at h1
      exact h1
def isoL (m : Nat) : Nat := (2 * fbm m + 3) * (m - 1) + fbm m + 2 * m + 8
theorem isoL_LV : ∀ m, m ≤ 8 → isoL m ≤ LV m := by unfold isoL LV fbm; decide +kernel
theorem un_0 : un 0 = 1 := by have := un_nn 0; rw [tp0] at this; rw [show (((0 : Nat) : Int)) = 0 from rfl] at this; rw [this]; grind
theorem un_big {lev : Int} {S : Nat} (h : (S : Int) ≤ lev) : un lev * ((2 ^ S : Nat) : Rat) ≤ 1 := by
  obtain ⟨k, rfl⟩ : ∃ k : Nat, lev = (S : Int) + k := ⟨(lev - S).toNat, by omega⟩
  have h1 := un_k 0 (S + k)
  rw [un_0, show (0 : Int) + ((S + k : Nat) : Int) = (S : Int) + k by omega] at h1
  have h2 : ((2 ^ (S + k) : Int) : Rat) = ((2 ^ S : Nat) : Rat) * ((2 ^ k : Nat) : Rat) := by
    rw [← Rat.natCast_mul, ← Nat.pow_add]
    have : ((2 ^ (S + k) : Int)) = ((2 ^ (S + k) : Nat) : Int) := by push_cast; rfl
    rw [this]
    rfl
  rw [h2] at h1
  have h3 : (1 : Rat) ≤ ((2 ^ k : Nat) : Rat) := nc_le (a := 1) (Nat.pow_pos (by omega))
  have h4 : (0 : Rat) < ((2 ^ S : Nat) : Rat) := Rat.natCast_pos.2 (Nat.pow_pos (by omega))
  have h5 := un_pos ((S : Int) + k)
  generalize ((2 ^ k : Nat) : Rat) = K at *
  generalize ((2 ^ S : Nat) : Rat) = A at *
  generalize un ((S : Int) + k) = u at *
  have h6 := Rat.mul_le_mul_of_nonneg_right h3 (show 0 ≤ A * u from Rat.mul_nonneg (by grind) (by grind))
  grind
/-- a fine cell, with its ends, holds one root at most -/
theorem gch.sep {P : Nat → Int} {n M : Nat} {F : Nat → Nat → Int} {d : Nat → Nat} (h : gch P n M F d) {z lev : Int} (hlev : (isoL (d 0) : Int) ≤ lev) : cN F d M (dy (z + 1) lev) - nm (lk F d 0) (cN F d M) (dy z lev) ≤ 1 := by
  obtain ⟨s, hs⟩ := h.rs
  have hr := hs.rts
  have hcn := h.cnt
  have h8 : d 0 ≤ 8 := by have := h.2.2.1; omega
  rcases Nat.lt_or_ge (d 0) 2 with h2 | h2
  · have := (hr.2.2 (dy (z + 1) lev)).2
    have := (hr.2.2 (dy z lev)).1
    omega
  have hb := h
  obtain ⟨p1, p2, p3, p4, p5⟩ := hb
  rcases p5 with ⟨a1, a2, a3, a4⟩ | ⟨a1, a2, ⟨f, g, hf, hg, a3⟩, a4, a5, a6, a7⟩
  · omega
  obtain ⟨sc, ht, hc, -⟩ := a3
  have hdM : 1 ≤ d (M - 1) := by
    rcases Nat.eq_or_lt_of_le a2 with e | e
    · subst e; show 1 ≤ d 0; omega
    · have := hc.2.2.1 (M - 1) (by omega) (by omega)
      omega
  obtain ⟨-, -, -, hR⟩ := hc.2.2.2.2.2.2.2.2.1 (d (M - 1)) hdM (by omega)
  have hR := hR rfl
  have hF1 : F 1 = dP (F 0) := funext a5
  rw [hF1, show d 1 = d 0 - 1 by omega] at hR
  have hb0 := hc.2.2.2.2.2.2.2.2.2.1
  have hb1 := hc.2.2.2.2.2.2.2.2.2.2.1
  rw [hF1, show d 1 + 1 = d 0 by omega] at hb1
  obtain ⟨B, -, x1, x2⟩ := ab_two (dy (z - 1) lev) (dy (z + 1 + 1) lev)
  have hu := un_pos lev
  have e1 : dy (z + 1 + 1) lev - dy (z - 1) lev = 3 * un lev := by
    have := dy_s (z - 1) lev
    rw [show z - 1 + 1 = z by omega] at this
    rw [dy_s, dy_s, this]
    grind
  have hw := un_big hlev
  have key := sep_a (Q := F 0) (m := d 0) (f := fbm (d 0)) (g := fbm (d 0) + 3) h2 h8 (hc.1 0 (by omega)).1 (hc.1 0 (by omega)).2 (Nat.le_trans hb0 (Nat.pow_le_pow_right (by omega) hf)) (Nat.le_trans hb1 (Nat.pow_le_pow_right (by omega) hg)) hR (hs.2.1 B) x1 x2 (dy_lt.2 (by omega)) (by
    rw [e1]
    have h3 : ((2 ^ isoL (d 0) : Nat) : Rat) = ((2 ^ ((fbm (d 0) + (fbm (d 0) + 3)) * (d 0 - 1) + fbm (d 0) + 2 * d 0 + 6) : Nat) : Rat) * 4 := by
      have : 2 ^ isoL (d 0) = 2 ^ ((fbm (d 0) + (fbm (d 0) + 3)) * (d 0 - 1) + fbm (d 0) + 2 * d 0 + 6) * 4 := by
        unfold isoL
        rw [show (fbm (d 0) + (fbm (d 0) + 3)) = 2 * fbm (d 0) + 3 by omega, show (2 * fbm (d 0) + 3) * (d 0 - 1) + fbm (d 0) + 2 * d 0 + 8 = ((2 * fbm (d 0) + 3) * (d 0 - 1) + fbm (d 0) + 2 * d 0 + 6) + 2 by omega, Nat.pow_add]
      rw [this, Rat.natCast_mul]; rfl
    rw [h3] at hw
    have h4 : (0 : Rat) < ((2 ^ ((fbm (d 0) + (fbm (d 0) + 3)) * (d 0 - 1) + fbm (d 0) + 2 * d 0 + 6) : Nat) : Rat) := Rat.natCast_pos.2 (Nat.pow_pos (by omega))
    generalize ((2 ^ ((fbm (d 0) + (fbm (d 0) + 3)) * (d 0 - 1) + fbm (d 0) + 2 * d 0 + 6) : Nat) : Rat) = T at *
    generalize un lev = u at *
    have h5 := Rat.mul_pos hu h4
    grind)
  have k1 := hr.2.1 (dy (z - 1) lev) (dy z lev) (dy_lt.2 (by omega))
  have k2 := hr.2.1 (dy (z + 1) lev) (dy (z + 1 + 1) lev) (dy_lt.2 (by omega))
  have e2 : nm (lk F d 0) (cN F d M) (dy (z + 1 + 1) lev) ≤ cN F d M (dy (z - 1) lev) + 1 := key
  omega
