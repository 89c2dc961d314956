theorem rmul_pow (a b : Rat) : ∀ n : Nat, (a * b) ^ n = a ^ n * b ^ n
  | 0 => by grind
  | n + 1 => by rw [Rat.pow_succ, Rat.pow_succ, Rat.pow_succ, rmul_pow a b n]; grind
/-- prefix sums -/
def psm (a : Nat → Int) : Nat → Int
  | 0 => a 0
  | k + 1 => psm a k + a (k + 1)
/-- sums of sums: of n + 1, n, .. coefficients -/
def be : Nat → (Nat → Int) → Nat → Int
  | 0, a, k => a k
  | n + 1, a, k => if k = n + 1 then psm a (n + 1) else be n (psm a) k
theorem ev_psm (a : Nat → Int) (t : Rat) : ∀ n, ev a (n + 1) t = psm a n * t ^ n + (1 - t) * ev (psm a) n t
  | 0 => by simp only [ev, psm]; grind
  | n + 1 => by
    show ev a (n + 1) t + a (n + 1) * t ^ (n + 1) = _
    rw [ev_psm a t n]
    show _ = ((psm a n + a (n + 1) : Int) : Rat) * t ^ (n + 1) + (1 - t) * (ev (psm a) n t + psm a n * t ^ n)
    rw [Rat.pow_succ]
    push_cast
    grind
/-- the same value, in powers of t and 1 - t -/
def bv (E : Nat → Int) (n : Nat) (t : Rat) : Nat → Rat
  | 0 => 0
  | k + 1 => bv E n t k + E k * (t ^ k * (1 - t) ^ (n - k))
theorem bv_congr {E E' : Nat → Int} {n : Nat} {t : Rat} : ∀ {k : Nat}, (∀ i, i < k → E i = E' i) → bv E n t k = bv E' n t k
  | 0, _ => rfl
  | k + 1, h => by
    show bv E n t k + _ = bv E' n t k + _
    rw [bv_congr (fun i hi => h i (by omega)), h k (by omega)]
theorem bv_up {E : Nat → Int} {n : Nat} {t : Rat} : ∀ {k : Nat}, k ≤ n + 1 → bv E (n + 1) t k = (1 - t) * bv E n t k
  | 0, _ => by simp only [bv]; grind
  | k + 1, h => by
    show bv E (n + 1) t k + _ = (1 - t) * (bv E n t k + _)
    rw [bv_up (by omega), show n + 1 - k = (n - k) + 1 by omega, Rat.pow_succ]
    grind
theorem be_ev (t : Rat) : ∀ n a, ev a (n + 1) t = bv (be n a) n t (n + 1)
  | 0, a => by simp only [ev, bv, be]; grind
  | n + 1, a => by
    rw [ev_psm, be_ev t n (psm a)]
    show _ = bv (be (n + 1) a) (n + 1) t (n + 1) + ((be (n + 1) a (n + 1) : Int) : Rat) * (t ^ (n + 1) * (1 - t) ^ (n + 1 - (n + 1)))
    have e1 : bv (be (n + 1) a) (n + 1) t (n + 1) = bv (be n (psm a)) (n + 1) t (n + 1) := bv_congr (fun i hi => by
      show (if i = n + 1 then psm a (n + 1) else be n (psm a) i) = _
      rw [if_neg (by omega)])
    have e2 : be (n + 1) a (n + 1) = psm a (n + 1) := by
      show (if n + 1 = n + 1 then psm a (n + 1) else be n (psm a) (n + 1)) = _
      rw [if_pos rfl]
    rw [e1, e2, bv_up (Nat.le_refl _), Nat.sub_self]
    generalize bv (be n (psm a)) n t (n + 1) = X
    grind
/-- .. and over 1 - t -/
theorem bv_ev {E : Nat → Int} {n : Nat} {t : Rat} (ht : t < 1) : ∀ k, k ≤ n + 1 → bv E n t k = (1 - t) ^ n * ev E k (t / (1 - t))
  | 0, _ => by simp only [bv, ev]; grind
  | k + 1, h => by
    show bv E n t k + _ = (1 - t) ^ n * (ev E k (t / (1 - t)) + E k * (t / (1 - t)) ^ k)
    rw [bv_ev ht k (by omega)]
    have h0 : (1 - t) ≠ 0 := by grind
    have h1 : (1 - t) ^ n = (1 - t) ^ (n - k) * (1 - t) ^ k := by rw [← rpow_add]; congr 1; omega
    have h2 : (1 - t) ^ k * (t / (1 - t)) ^ k = t ^ k := by
      rw [← rmul_pow]; congr 1; clear h1; grind
    generalize (t / (1 - t)) ^ k = Z at *
    generalize ev E k (t / (1 - t)) = W at *
    grind
theorem ev_nn {P : Nat → Int} {z : Rat} (hz : 0 ≤ z) : ∀ {n : Nat}, (∀ k, k < n → 0 ≤ P k) → 0 ≤ ev P n z
  | 0, _ => by simp only [ev]; grind
  | n + 1, h => by
    have h1 := ev_nn hz (n := n) (fun k hk => h k (by omega))
    have h2 : (0 : Rat) ≤ (P n : Int) := by exact_mod_cast h n (by omega)
    have h3 := Rat.mul_nonneg h2 (Rat.pow_nonneg hz (n := n))
    show 0 ≤ ev P n z + P n * z ^ n
    grind
theorem ev_ge {P : Nat → Int} {z : Rat} (hz : 0 ≤ z) {i : Nat} : ∀ {n : Nat}, i < n → (∀ k, k < n → 0 ≤ P k) → P i * z ^ i ≤ ev P n z
  | 0, hi, _ => by omega
  | n + 1, hi, h => by
    show P i * z ^ i ≤ ev P n z + P n * z ^ n
    by_cases e : i = n
    · subst e
      have := ev_nn hz (n := i) (fun k hk => h k (by omega))
      grind
    · have h1 := ev_ge hz (i := i) (n := n) (by omega) (fun k hk => h k (by omega))
      have h2 : (0 : Rat) ≤ (P n : Int) := by exact_mod_cast h n (by omega)
      have h3 := Rat.mul_nonneg h2 (Rat.pow_nonneg hz (n := n))
      grind
theorem rpow_le {a b : Rat} (ha : 0 ≤ a) (h : a ≤ b) : ∀ n : Nat, a ^ n ≤ b ^ n
  | 0 => by grind
  | n + 1 => by
    rw [Rat.pow_succ, Rat.pow_succ]
    have h1 := Rat.mul_le_mul_of_nonneg_right (rpow_le ha h n) ha
    have h2 := Rat.mul_le_mul_of_nonneg_left h (Rat.pow_nonneg (show 0 ≤ b by grind) (n := n))
    grind
theorem ev_mono {P : Nat → Int} {y z : Rat} (hy : 0 ≤ y) (h : y ≤ z) : ∀ {n : Nat}, (∀ k, k < n → 0 ≤ P k) → ev P n y ≤ ev P n z
  | 0, _ => by simp only [ev]; grind
  | n + 1, hP => by
    have h1 := ev_mono hy h (n := n) (fun k hk => hP k (by omega))
    have h2 : (0 : Rat) ≤ (P n : Int) := by exact_mod_cast hP n (by omega)
    have h3 := Rat.mul_le_mul_of_nonneg_left (rpow_le hy h n) h2
    show ev P n y + P n * y ^ n ≤ ev P n z + P n * z ^ n
    grind
theorem rpow_1le {a : Rat} (h : 1 ≤ a) {m : Nat} : ∀ {n : Nat}, m ≤ n → a ^ m ≤ a ^ n
  | 0, hn => by rw [show m = 0 by omega]; exact Rat.le_refl
  | n + 1, hn => by
    by_cases e : m = n + 1
    · rw [e]; exact Rat.le_refl
    · have ih := rpow_1le h (m := m) (n := n) (by omega)
      rw [Rat.pow_succ]
      have h1 := Rat.mul_le_mul_of_nonneg_left h (Rat.pow_nonneg (show 0 ≤ a by grind) (n := n))
      rw [Rat.mul_one] at h1
      exact Rat.le_trans ih h1
theorem rone_pow : ∀ n : Nat, (1 : Rat) ^ n = 1
  | 0 => by grind
  | n + 1 => by rw [Rat.pow_succ, rone_pow n]; grind
theorem ev_scale {P : Nat → Int} {z l : Rat} (hz : 0 ≤ z) (hl : 1 ≤ l) {M : Nat} : ∀ {n : Nat}, n ≤ M + 1 → (∀ k, k < n → 0 ≤ P k) → ev P n (l * z) ≤ l ^ M * ev P n z
  | 0, _, _ => by simp only [ev]; grind
  | n + 1, hn, hP => by
    have h1 := ev_scale hz hl (M := M) (n := n) (by omega) (fun k hk => hP k (by omega))
    have h2 : (0 : Rat) ≤ (P n : Int) := by exact_mod_cast hP n (by omega)
    have h3 := rpow_1le hl (show n ≤ M by omega)
    have h4 := Rat.mul_le_mul_of_nonneg_right h3 (Rat.pow_nonneg hz (n := n))
    have h5 := Rat.mul_le_mul_of_nonneg_left h4 h2
    show ev P n (l * z) + P n * (l * z) ^ n ≤ l ^ M * (ev P n z + P n * z ^ n)
    rw [rmul_pow]
    grind
theorem ev_neg (P : Nat → Int) (z : Rat) : ∀ n, ev (fun k => - P k) n z = - ev P n z
  | 0 => by simp only [ev]; grind
  | n + 1 => by
    show ev _ n z + ((- P n : Int) : Rat) * z ^ n = - (ev P n z + P n * z ^ n)
    rw [ev_neg P z n]; push_cast; grind
/-- the first m coefficients, and the others -/
theorem ev_cut (P : Nat → Int) (z : Rat) (m : Nat) : ∀ n, ev P (m + n) z = ev P m z + z ^ m * ev (fun k => P (m + k)) n z
  | 0 => by simp only [ev, Nat.add_zero]; grind
  | n + 1 => by
    show ev P (m + n) z + P (m + n) * z ^ (m + n) = _
    rw [ev_cut P z m n, rpow_add]
    show _ = ev P m z + z ^ m * (ev (fun k => P (m + k)) n z + P (m + n) * z ^ n)
    grind
/-- one change: first not below 0, then not above it -/
theorem ev_one {P : Nat → Int} {m n i k : Nat} (h1 : ∀ t, t < m → 0 ≤ P t) (h2 : ∀ t, t < n → P (m + t) ≤ 0) (hi : i < m) (hi0 : 0 < P i) (hk : k < n) (hk0 : P (m + k) < 0) : (∀ y z : Rat, 0 < y → y < z → ev P (m + n) y ≤ 0 → ev P (m + n) z < 0) ∧ ∃ z0 : Rat, 0 < z0 ∧ ∀ z, 0 < z → z ≤ z0 → 0 < ev P (m + n) z := by
  have hN : ∀ z, ev P (m + n) z = ev P m z - z ^ m * ev (fun k => - P (m + k)) n z := fun z => by
    rw [ev_cut, ev_neg (fun k => P (m + k))]; grind
  have hB : ∀ t, t < n → 0 ≤ (fun k => - P (m + k)) t := fun t ht => by have := h2 t ht; show 0 ≤ - P (m + t); omega
  constructor
  · intro y z hy hyz hle
    rw [hN] at hle ⊢
    obtain ⟨l, hl1, hlz⟩ : ∃ l : Rat, 1 < l ∧ z = l * y := by
      refine ⟨z / y, ?_, by grind⟩
      rw [Rat.div_def]
      have h3 := Rat.mul_lt_mul_of_pos_right hyz (Rat.inv_pos.2 hy)
      rw [Rat.mul_inv_cancel _ (by grind)] at h3
      exact h3
    subst hlz
    have a1 := ev_scale (P := P) (z := y) (l := l) (by grind) (by grind) (M := m - 1) (n := m) (by omega) h1
    have a2 := ev_mono (P := fun k => - P (m + k)) (y := y) (z := l * y) (by grind) (by grind) hB
    have b0 : 0 < ev (fun k => - P (m + k)) n y := by
      have h3 := ev_ge (P := fun k => - P (m + k)) (z := y) (by grind) hk hB
      have h4 : (0 : Rat) < ((- P (m + k) : Int) : Rat) := by
        have : 0 < - P (m + k) := by omega
        exact_mod_cast this
      have h5 := Rat.mul_pos h4 (Rat.pow_pos hy (n := k))
      exact Std.lt_of_lt_of_le h5 h3
    have lp1 : 0 < l ^ (m - 1) := Rat.pow_pos (by grind)
    have em : l ^ m = l ^ (m - 1) * l := by rw [← Rat.pow_succ]; congr 1; omega
    have hym : 0 < y ^ m := Rat.pow_pos hy
    rw [rmul_pow, em]
    have c1 := Rat.mul_le_mul_of_nonneg_left hle (show 0 ≤ l ^ (m - 1) by grind)
    have c2 : 0 < l ^ (m - 1) * y ^ m := Rat.mul_pos lp1 hym
    have c3 := Rat.mul_pos c2 b0
    have c4 := Rat.mul_le_mul_of_nonneg_left a2 (show 0 ≤ l ^ (m - 1) * y ^ m by grind)
    have c5 := Rat.mul_lt_mul_of_pos_right hl1 c3
    have c6 := Rat.mul_le_mul_of_nonneg_left c4 (show 0 ≤ l by grind)
    grind
  · -- near 0
    have hi1 : (1 : Rat) ≤ (P i : Int) := by
      have : (1 : Int) ≤ P i := by omega
      have := Rat.intCast_le_intCast.2 this
      exact this
    have hC := ev_nn (P := fun k => - P (m + k)) (show (0 : Rat) ≤ 1 by grind) hB
    obtain ⟨z0, hz0, e1, e2⟩ := min_pos (show 0 < 1 / (ev (fun k => - P (m + k)) n 1 + 1) by
      rw [Rat.div_def]; exact Rat.mul_pos (by grind) (Rat.inv_pos.2 (by grind))) (show (0 : Rat) < 1 by grind)
    refine ⟨z0, hz0, fun z hz hzz => ?_⟩
    rw [hN]
    have a1 := ev_ge (P := P) (z := z) (by clear e1; grind) hi h1
    have a2 := ev_mono (P := fun k => - P (m + k)) (y := z) (z := 1) (by clear e1; grind) (by clear e1; grind) hB
    have zi : 0 < z ^ i := Rat.pow_pos hz
    have a3 := Rat.mul_le_mul_of_nonneg_right hi1 (show 0 ≤ z ^ i by clear e1; grind)
    have a4 : z * (ev (fun k => - P (m + k)) n 1 + 1) ≤ 1 := by
      have h3 := Rat.mul_le_mul_of_nonneg_right (Rat.le_trans hzz e1) (show 0 ≤ ev (fun k => - P (m + k)) n 1 + 1 by clear e1; grind)
      rw [show 1 / (ev (fun k => - P (m + k)) n 1 + 1) * (ev (fun k => - P (m + k)) n 1 + 1) = 1 from Rat.div_mul_cancel (by clear e1 h3; grind)] at h3
      exact h3
    clear e1
    have em : z ^ m = z ^ i * (z ^ (m - i - 1) * z) := by
      rw [← Rat.pow_succ, ← rpow_add]; congr 1; omega
    have a5 : z ^ (m - i - 1) ≤ 1 := by
      have := rpow_le (show 0 ≤ z by grind) (show z ≤ 1 by grind) (m - i - 1)
      rw [rone_pow] at this; exact this
    rw [em]
    have a6 : z * ev (fun k => - P (m + k)) n z < 1 := by
      have h3 := Rat.mul_le_mul_of_nonneg_left a2 (show 0 ≤ z by grind)
      grind
    have bn := ev_nn (P := fun k => - P (m + k)) (show 0 ≤ z by grind) hB
    have a7 : z ^ (m - i - 1) * (z * ev (fun k => - P (m + k)) n z) < 1 := by
      have h3 := Rat.mul_le_mul_of_nonneg_right a5 (Rat.mul_nonneg (show 0 ≤ z by grind) bn)
      grind
    have a8 := Rat.mul_lt_mul_of_pos_left a7 zi
    grind
/-- .. and far out it is below 0 -/
theorem ev_one' {P : Nat → Int} {m n k : Nat} (h1 : ∀ t, t < m → 0 ≤ P t) (h2 : ∀ t, t < n → P (m + t) ≤ 0) (hm : 0 < m) (hk : k < n) (hk0 : P (m + k) < 0) : ∃ z : Rat, 0 < z ∧ ev P (m + n) z < 0 := by
  have hB : ∀ t, t < n → 0 ≤ (fun k => - P (m + k)) t := fun t ht => by have := h2 t ht; show 0 ≤ - P (m + t); omega
  have hA := ev_nn (P := P) (show (0 : Rat) ≤ 1 by grind) h1
  refine ⟨ev P m 1 + 1, by grind, ?_⟩
  generalize hz : ev P m 1 + 1 = z
  have hz1 : 1 ≤ z := by grind
  rw [ev_cut, show ev (fun k => P (m + k)) n z = - ev (fun k => - P (m + k)) n z by rw [ev_neg (fun k => P (m + k))]; grind]
  have a1 := ev_scale (P := P) (z := 1) (l := z) (by grind) hz1 (M := m - 1) (n := m) (by omega) h1
  rw [Rat.mul_one] at a1
  have a2 := ev_ge (P := fun k => - P (m + k)) (z := z) (by grind) hk hB
  have a3 : (1 : Rat) ≤ ((- P (m + k) : Int) : Rat) := by
    have : (1 : Int) ≤ - P (m + k) := by omega
    have := Rat.intCast_le_intCast.2 this
    exact this
  have a4 := rpow_1le hz1 (show 0 ≤ k by omega)
  rw [show z ^ 0 = 1 by grind] at a4
  have a5 := Rat.mul_le_mul_of_nonneg_left a4 (show 0 ≤ ((- P (m + k) : Int) : Rat) by grind)
  have a6 : 1 ≤ ev (fun k => - P (m + k)) n z := by
    rw [Rat.mul_one] at a5
    exact Rat.le_trans a3 (Rat.le_trans a5 a2)
  have lp1 : 0 < z ^ (m - 1) := Rat.pow_pos (by grind)
  have em : z ^ m = z ^ (m - 1) * z := by rw [← Rat.pow_succ]; congr 1; omega
  have a7 := Rat.mul_le_mul_of_nonneg_left a6 (show 0 ≤ z ^ m by rw [em]; exact Rat.mul_nonneg (by grind) (by grind))
  have a8 := Rat.mul_lt_mul_of_pos_left (show ev P m 1 < z by grind) lp1
  grind
theorem vr_mono (s : Nat → Int) : ∀ N, 0 ≤ (vr s N).1
  | 0 => by simp [vr]
  | N + 1 => by
    have := vr_mono s N
    simp only [vr]
    split
    · exact this
    · show 0 ≤ (vr s N).1 + _
      split <;> omega
theorem vr_0 {s : Nat → Int} (hs : ∀ k, -1 ≤ s k ∧ s k ≤ 1) : ∀ {N : Nat}, (vr s N).1 = 0 → ∀ k, k < N → s k = 0 ∨ s k = (vr s N).2
  | 0, _, k, hk => by omega
  | N + 1, h, k, hk => by
    have hm := vr_mono s N
    have hb := hs N
    simp only [vr] at h ⊢
    by_cases h0 : s N = 0
    · rw [if_pos h0] at h ⊢
      by_cases e : k = N
      · subst e; exact Or.inl h0
      · exact vr_0 hs h k (by omega)
    · rw [if_neg h0] at h ⊢
      simp only at h ⊢
      by_cases h1 : (vr s N).2 = - s N
      · rw [if_pos h1] at h; omega
      · rw [if_neg h1] at h
        have h2 := vr_0 hs (N := N) (by omega)
        by_cases e : k = N
        · subst e; exact Or.inr rfl
        · have h3 := h2 k (by omega)
          have h4 := hs k
          omega
theorem vr_last {s : Nat → Int} : ∀ {N : Nat}, (vr s N).2 = 0 ∨ ∃ k, k < N ∧ s k = (vr s N).2
  | 0 => Or.inl (by simp [vr])
  | N + 1 => by
    simp only [vr]
    by_cases h0 : s N = 0
    · rw [if_pos h0]
      rcases vr_last (s := s) (N := N) with h | ⟨k, h1, h2⟩
      · exact Or.inl h
      · exact Or.inr ⟨k, by omega, h2⟩
    · rw [if_neg h0]
      exact Or.inr ⟨N, by omega, rfl⟩
theorem vr_1 {s : Nat → Int} (hs : ∀ k, -1 ≤ s k ∧ s k ≤ 1) : ∀ {N : Nat}, (vr s N).1 = 1 → ∃ (m : Nat) (σ : Int), (σ = 1 ∨ σ = -1) ∧ (vr s N).2 = -σ ∧ m ≤ N ∧ (∀ k, k < m → s k = 0 ∨ s k = σ) ∧ (∀ k, m ≤ k → k < N → s k = 0 ∨ s k = -σ) ∧ (∃ i, i < m ∧ s i = σ) ∧ ∃ k, m ≤ k ∧ k < N ∧ s k = -σ
  | 0, h => by simp [vr] at h
  | N + 1, h => by
    have hm := vr_mono s N
    have hb := hs N
    simp only [vr] at h ⊢
    by_cases h0 : s N = 0
    · rw [if_pos h0] at h ⊢
      obtain ⟨m, σ, a, b, c, d, e, f, k, g1, g2, g3⟩ := vr_1 hs h
      refine ⟨m, σ, a, b, by omega, d, fun k h1 h2 => ?_, f, k, g1, by omega, g3⟩
      by_cases hk : k = N
      · subst hk; exact Or.inl h0
      · exact e k h1 (by omega)
    · rw [if_neg h0] at h ⊢
      simp only at h ⊢
      by_cases h1 : (vr s N).2 = - s N
      · rw [if_pos h1] at h
        have h2 := vr_0 hs (N := N) (by omega)
        rcases vr_last (s := s) (N := N) with h3 | ⟨i, h3, h4⟩
        · omega
        · refine ⟨N, (vr s N).2, by omega, by omega, by omega, fun k hk => h2 k hk, fun k h5 h6 => ?_, ⟨i, h3, h4⟩, N, Nat.le_refl _, by omega, by omega⟩
          have : k = N := by omega
          subst this; omega
      · rw [if_neg h1] at h
        obtain ⟨m, σ, a, b, c, d, e, f, k, g1, g2, g3⟩ := vr_1 hs (N := N) (by omega)
        refine ⟨m, σ, a, by omega, by omega, d, fun k h1 h2 => ?_, f, k, g1, by omega, g3⟩
        by_cases hk : k = N
        · subst hk; omega
        · exact e k h1 (by omega)
/-- how many roots lie below y -/
noncomputable def nm (q : Rat → Rat) (N : Rat → Int) (y : Rat) : Int := if q y = 0 then N y - 1 else N y
section
variable {q : Rat → Rat} {s N : Rat → Int} {B : Rat}
theorem rct.nlim (h : rct q s N B) (ql : lp q) {y : Rat} (hy : ab y B) : ∃ d : Rat, 0 < d ∧ ∀ x, ab x B → x < y → y - x < d → N x = nm q N y ∧ q x ≠ 0 := by
  unfold nm
  by_cases h0 : q y = 0
  · obtain ⟨d, hd, l⟩ := h.left0
    refine ⟨d, hd, fun x hx hxy hl => ?_⟩
    rw [if_pos h0]
    exact l x y hx hy hxy hl h0
  · obtain ⟨d, hd, l⟩ := h.left ql hy h0
    refine ⟨d, hd, fun x hx hxy hl => ?_⟩
    rw [if_neg h0]
    have := l x hx hxy hl
    exact ⟨this.1, this.2.2⟩
theorem rct.nm_of (h : rct q s N B) (ql : lp q) {x y : Rat} (hx : ab x B) (hy : ab y B) (hxy : x < y) {v : Int} {t0 : Rat} (ht0 : t0 < y) (hv : ∀ t, x < t → t0 ≤ t → t < y → N t = v) : nm q N y = v := by
  obtain ⟨d, hd, l⟩ := h.nlim ql hy
  obtain ⟨e, he, e1, e2⟩ := min_pos hd (show 0 < y - x by grind)
  obtain ⟨e', he', e3, e4⟩ := min_pos he (show 0 < y - t0 by grind)
  have hb := ab_mid hx hy (show x ≤ y - e' / 2 by grind) (show y - e' / 2 ≤ y by grind)
  have h1 := (l (y - e' / 2) hb (by grind) (by grind)).1
  have h2 := hv (y - e' / 2) (by grind) (by grind) (by grind)
  omega
/-- Descartes: no change, no root between -/
theorem rct.desc0 (h : rct q s N B) (ql : lp q) {lo wd c : Rat} {T : Nat → Int} {n : Nat} (hlo : ab lo B) (hhi : ab (lo + wd) B) (hwd : 0 < wd) (hc : 0 < c) (hT : ∀ t, c * q (lo + wd * t) = ev T (n + 1) t) (h0 : ∃ k, k < n + 1 ∧ be n T k ≠ 0) (hv : (vr (fun k => (be n T k).sign) (n + 1)).1 = 0) : (∃ σ : Int, (σ = 1 ∨ σ = -1) ∧ ∀ x, lo < x → x < lo + wd → sgr (q x) = σ) ∧ nm q N (lo + wd) = N lo := by
  have key : ∃ σ : Int, (σ = 1 ∨ σ = -1) ∧ ∀ x, lo < x → x < lo + wd → sgr (q x) = σ := by
    have h1 := vr_0 (s := fun k => (be n T k).sign) (fun k => by have := Int.sign_trichotomy (be n T k); show -1 ≤ (be n T k).sign ∧ (be n T k).sign ≤ 1; omega) hv
    obtain ⟨k0, k1, k2⟩ := h0
    have h2 := h1 k0 k1
    have h3 : (be n T k0).sign ≠ 0 := fun e => k2 (Int.sign_eq_zero_iff_zero.1 e)
    have h4 : (be n T k0).sign = (vr (fun k => (be n T k).sign) (n + 1)).2 := h2.resolve_left h3
    rw [← h4] at h1
    have hσ : (be n T k0).sign = 1 ∨ (be n T k0).sign = -1 := by have := Int.sign_trichotomy (be n T k0); omega
    refine ⟨_, hσ, fun x x1 x2 => ?_⟩
    -- t
    have ht : ∃ t, 0 < t ∧ t < 1 ∧ x = lo + wd * t := by
      refine ⟨(x - lo) / wd, ?_, ?_, ?_⟩
      · rw [Rat.div_def]; exact Rat.mul_pos (by grind) (Rat.inv_pos.2 hwd)
      · rw [Rat.div_lt_iff hwd]; grind
      · have : wd ≠ 0 := by grind
        grind
    obtain ⟨t, t1, t2, t3⟩ := ht
    have e1 := hT t
    rw [← t3, be_ev, bv_ev t2 _ (Nat.le_refl _)] at e1
    have hz : 0 < t / (1 - t) := by rw [Rat.div_def]; exact Rat.mul_pos t1 (Rat.inv_pos.2 (by grind))
    have hp : 0 < (1 - t) ^ n := Rat.pow_pos (by grind)
    have e2 : sgr (c * q x) = sgr (q x) := sgr_pos_mul hc
    rw [← e2, e1, sgr_pos_mul hp]
    generalize t / (1 - t) = z at *
    have key : ∀ P : Nat → Int, (∀ k, k < n + 1 → 0 ≤ P k) → 0 < P k0 → 0 < ev P (n + 1) z := fun P hP hP0 => by
      have a1 := ev_ge (P := P) (z := z) (by grind) k1 hP
      have a2 : (0 : Rat) < (P k0 : Int) := by exact_mod_cast hP0
      exact Std.lt_of_lt_of_le (Rat.mul_pos a2 (Rat.pow_pos hz)) a1
    rcases hσ with e | e
    · rw [e]
      have := key (be n T) (fun k hk => by have h5 := h1 k hk; rw [e] at h5; exact Int.sign_nonneg_iff.1 (by omega)) (Int.sign_eq_one_iff_pos.1 e)
      rcases sgr_r (ev (be n T) (n + 1) z) with g | g | g <;> grind
    · rw [e]
      have := key (fun k => - be n T k) (fun k hk => by have h5 := h1 k hk; rw [e] at h5; have h6 : (be n T k).sign ≤ 0 := by omega
                                                        show 0 ≤ - be n T k
                                                        have h7 := Int.sign_nonpos_iff.1 h6
                                                        omega) (by show 0 < - be n T k0; have := Int.sign_eq_neg_one_iff_neg.1 e; omega)
      rw [ev_neg] at this
      rcases sgr_r (ev (be n T) (n + 1) z) with g | g | g <;> grind
  refine ⟨key, ?_⟩
  obtain ⟨σ, hσ, hq⟩ := key
  have h1 := h.none ql hlo hhi hq (by omega)
  exact h.nm_of ql hlo hhi (by grind) (t0 := lo) (by grind) (fun t t1 _ t2 => h1 t (by grind) t2)
/-- .. one change, one root -/
theorem rct.desc1 (h : rct q s N B) (ql : lp q) {lo wd c : Rat} {T : Nat → Int} {n : Nat} (hlo : ab lo B) (hhi : ab (lo + wd) B) (hwd : 0 < wd) (hc : 0 < c) (hT : ∀ t, c * q (lo + wd * t) = ev T (n + 1) t) (hv : (vr (fun k => (be n T k).sign) (n + 1)).1 = 1) : nm q N (lo + wd) = N lo + 1 := by
  obtain ⟨m, σ, hσ, _, hm, h1, h2, ⟨i, i1, i2⟩, k, k1, k2, k3⟩ := vr_1 (s := fun k => (be n T k).sign) (fun k => by have := Int.sign_trichotomy (be n T k); show -1 ≤ (be n T k).sign ∧ (be n T k).sign ≤ 1; omega) hv
  -- P: the coefficients turned so that the first are not below 0
  obtain ⟨p, hp⟩ : ∃ p, n + 1 = m + p := ⟨n + 1 - m, by omega⟩
  have sgP : ∀ k, (σ * be n T k).sign = σ * (be n T k).sign := fun k => by
    rcases hσ with e | e <;> rw [e, Int.sign_mul] <;> rfl
  have one := ev_one (P := fun k => σ * be n T k) (m := m) (n := p) (i := i) (k := k - m)
    (fun t ht => by
      have a := h1 t ht
      refine Int.sign_nonneg_iff.1 ?_
      rw [sgP]; rcases hσ with e | e <;> subst e <;> omega)
    (fun t ht => by
      have a := h2 (m + t) (by omega) (by omega)
      refine Int.sign_nonpos_iff.1 ?_
      rw [sgP]; rcases hσ with e | e <;> subst e <;> omega)
    i1 (by
      refine Int.sign_eq_one_iff_pos.1 ?_
      rw [sgP]; rcases hσ with e | e <;> subst e <;> omega)
    (by omega) (by
      refine Int.sign_eq_neg_one_iff_neg.1 ?_
      rw [show m + (k - m) = k by omega, sgP]; rcases hσ with e | e <;> subst e <;> omega)
  rw [← hp] at one
  have evs : ∀ z, ev (fun k => σ * be n T k) (n + 1) z = σ * ev (be n T) (n + 1) z := fun z => by
    have := ev_lin σ 0 (be n T) (be n T) z (n + 1)
    rw [← ev_congr (P := fun k => σ * be n T k) (fun k _ => by show σ * be n T k = σ * be n T k + 0 * be n T k; omega)] at this
    rw [this]; grind
  -- from x to z
  have tr : ∀ x, lo < x → x < lo + wd → ∃ z t C : Rat, 0 < z ∧ 0 < t ∧ t < 1 ∧ z * (1 - t) = t ∧ x = lo + wd * t ∧ 0 < C ∧ C * (σ * q x) = ev (fun k => σ * be n T k) (n + 1) z := by
    intro x x1 x2
    have ht : ∃ t, 0 < t ∧ t < 1 ∧ x = lo + wd * t := by
      refine ⟨(x - lo) / wd, ?_, ?_, ?_⟩
      · rw [Rat.div_def]; exact Rat.mul_pos (by grind) (Rat.inv_pos.2 hwd)
      · rw [Rat.div_lt_iff hwd]; grind
      · have : wd ≠ 0 := by grind
        grind
    obtain ⟨t, t1, t2, t3⟩ := ht
    have e1 := hT t
    rw [← t3, be_ev, bv_ev t2 _ (Nat.le_refl _)] at e1
    have hz : 0 < t / (1 - t) := by rw [Rat.div_def]; exact Rat.mul_pos t1 (Rat.inv_pos.2 (by grind))
    have hpw : 0 < (1 - t) ^ n := Rat.pow_pos (by grind)
    refine ⟨t / (1 - t), t, c / (1 - t) ^ n, hz, t1, t2, Rat.div_mul_cancel (by grind), t3, by rw [Rat.div_def]; exact Rat.mul_pos hc (Rat.inv_pos.2 hpw), ?_⟩
    rw [evs]
    have hne : (1 - t) ^ n ≠ 0 := by grind
    generalize ev (be n T) (n + 1) (t / (1 - t)) = E at *
    generalize (1 - t) ^ n = W at *
    grind
  have mono : ∀ t u z z' : Rat, 0 < t → t < u → u < 1 → z * (1 - t) = t → z' * (1 - u) = u → 0 < z → z < z' := by
    intro t u z z' a b c d e f
    by_cases hc : z < z'
    · exact hc
    · exfalso
      have g := Rat.mul_le_mul_of_nonneg_right (show z' ≤ z by grind) (show 0 ≤ 1 - u by grind)
      have g2 := Rat.mul_lt_mul_of_pos_left (show 1 - u < 1 - t by grind) f
      grind
  have res := h.one ql hlo hhi (by grind) hσ (fun t u t1 tu u1 hle => by
      obtain ⟨z, a, C, z1, a1, a2, a3, a4, C1, C2⟩ := tr t t1 (by grind)
      obtain ⟨z', a', C', z1', a1', a2', a3', a4', C1', C2'⟩ := tr u (by grind) u1
      have haa : a < a' := by
        by_cases hc : a < a'
        · exact hc
        · have := Rat.mul_le_mul_of_nonneg_left (show a' ≤ a by grind) (show 0 ≤ wd by grind); grind
      have hzz := mono a a' z z' a1 haa a2' a3 a3' z1
      have g1 : ev (fun k => σ * be n T k) (n + 1) z ≤ 0 := by
        rw [← C2]
        have := Rat.mul_nonneg (show 0 ≤ C by grind) (show 0 ≤ -(σ * q t) by grind)
        grind
      have g2 := one.1 z z' z1 hzz g1
      rw [← C2'] at g2
      by_cases hc : σ * q u < 0
      · exact hc
      · have := Rat.mul_nonneg (show 0 ≤ C' by grind) (show 0 ≤ σ * q u by grind)
        grind) (by
      obtain ⟨z0, hz0, f⟩ := one.2
      -- t small enough
      obtain ⟨w, hw, w1, w2⟩ := min_pos hz0 (show (0 : Rat) < 1 by grind)
      have hx1 : lo < lo + wd * (w / 2) := by have := Rat.mul_pos hwd (show 0 < w / 2 by grind); grind
      have hx2 : lo + wd * (w / 2) < lo + wd := by have := Rat.mul_lt_mul_of_pos_left (show w / 2 < 1 by grind) hwd; grind
      refine ⟨lo + wd * (w / 2), hx1, hx2, ?_⟩
      obtain ⟨z, a, C, z1, a1, a2, a3, a4, C1, C2⟩ := tr _ hx1 hx2
      have ea : a = w / 2 := by
        have : wd * (a - w / 2) = 0 := by grind
        rcases Rat.mul_eq_zero.1 this with e | e <;> grind
      have hz : z ≤ z0 := by
        -- z (1 - w/2) = w/2, w ≤ 1: z ≤ w
        have h3 : z * (1 / 2) ≤ z * (1 - a) := Rat.mul_le_mul_of_nonneg_left (by grind) (by grind)
        grind
      have g := f z z1 hz
      rw [← C2] at g
      exact pos_of_mul C1 g)
  -- near the upper end q is turned
  have hneg : ∃ t, lo < t ∧ t < lo + wd ∧ N t = N lo + 1 := by
    have h3 := h.mono hlo hhi (by grind)
    -- by the turned polynomial: at z large
    have : ∃ x, lo < x ∧ x < lo + wd ∧ σ * q x < 0 := by
      obtain ⟨z, hz, f⟩ := ev_one' (P := fun k => σ * be n T k) (m := m) (n := p) (k := k - m)
        (fun t ht => by
          have a := h1 t ht
          refine Int.sign_nonneg_iff.1 ?_
          rw [sgP]; rcases hσ with e | e <;> subst e <;> omega)
        (fun t ht => by
          have a := h2 (m + t) (by omega) (by omega)
          refine Int.sign_nonpos_iff.1 ?_
          rw [sgP]; rcases hσ with e | e <;> subst e <;> omega) (by omega) (by omega) (by
          refine Int.sign_eq_neg_one_iff_neg.1 ?_
          rw [show m + (k - m) = k by omega, sgP]; rcases hσ with e | e <;> subst e <;> omega)
      rw [← hp] at f
      have ht1 : 0 < z / (1 + z) := by rw [Rat.div_def]; exact Rat.mul_pos hz (Rat.inv_pos.2 (by grind))
      have ht2 : z / (1 + z) < 1 := by rw [Rat.div_lt_iff (by grind)]; grind
      have htz : z / (1 + z) * (1 + z) = z := Rat.div_mul_cancel (by grind)
      generalize z / (1 + z) = t at *
      have hx1 : lo < lo + wd * t := by have := Rat.mul_pos hwd ht1; grind
      have hx2 : lo + wd * t < lo + wd := by have := Rat.mul_lt_mul_of_pos_left ht2 hwd; grind
      refine ⟨lo + wd * t, hx1, hx2, ?_⟩
      obtain ⟨z', a, C, z1, a1, a2, a3, a4, C1, C2⟩ := tr _ hx1 hx2
      have ea : a = t := by
        have : wd * (a - t) = 0 := by grind
        rcases Rat.mul_eq_zero.1 this with e | e <;> grind
      have ez : z' = z := by
        have h4 : z * (1 - t) = t := by grind
        have h5 : (z' - z) * (1 - t) = 0 := by rw [ea] at a3; grind
        rcases Rat.mul_eq_zero.1 h5 with e | e <;> grind
      rw [← ez, ← C2] at f
      have g := pos_of_mul C1 (show 0 < C * (-(σ * q (lo + wd * t))) by grind)
      grind
    obtain ⟨x, x1, x2, x3⟩ := this
    exact ⟨x, x1, x2, (res x x1 x2).2 (by grind)⟩
  obtain ⟨t0, a1, a2, a3⟩ := hneg
  refine h.nm_of ql hlo hhi (by grind) (t0 := t0) a2 (fun t t1 t2 t3 => ?_)
  have hb1 := ab_mid hlo hhi (show lo ≤ t0 by grind) (show t0 ≤ lo + wd by grind)
  have hb2 := ab_mid hlo hhi (show lo ≤ t by grind) (show t ≤ lo + wd by grind)
  have m1 := h.mono hb1 hb2 t2
  have := res t t1 t3
  by_cases hc : 0 < σ * q t
  · have := this.1 hc; omega
  · exact this.2 (by grind)
end
