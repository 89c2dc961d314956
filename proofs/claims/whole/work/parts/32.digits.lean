/-! DIGITS: what a row of limbs is worth -/
theorem ip_pos {B : Int} (h : 0 < B) (n : Nat) : 0 < B ^ n := by
  induction n with
  | zero => simp
  | succ n ih => rw [Int.pow_succ]; exact Int.mul_pos ih h
def dv (B : Int) (g : Nat → Int) : Nat → Int
  | 0 => 0
  | n + 1 => dv B g n + g n * B ^ n
theorem dv_0 (B : Int) (g : Nat → Int) : dv B g 0 = 0 := rfl
theorem dv_s (B : Int) (g : Nat → Int) (n : Nat) : dv B g (n + 1) = dv B g n + g n * B ^ n := rfl
theorem dv_congr {B : Int} {g h : Nat → Int} : ∀ {n : Nat}, (∀ k, k < n → g k = h k) → dv B g n = dv B h n := by
  intro n
  induction n with
  | zero => intro _; rfl
  | succ n ih => intro e; rw [dv_s, dv_s, ih (fun k hk => e k (by omega)), e n (by omega)]
theorem dv_range {B : Int} (hB : 0 < B) {g : Nat → Int} : ∀ {n : Nat}, (∀ k, k < n → 0 ≤ g k ∧ g k < B) → 0 ≤ dv B g n ∧ dv B g n < B ^ n := by
  intro n
  induction n with
  | zero => intro _; simp [dv]
  | succ n ih =>
    intro e
    obtain ⟨h1, h2⟩ := ih (fun k hk => e k (by omega))
    obtain ⟨h3, h4⟩ := e n (by omega)
    have hp := ip_pos hB n
    rw [dv_s, Int.pow_succ]
    have h5 := Int.mul_nonneg h3 (Int.le_of_lt hp)
    have h6 := Int.mul_le_mul_of_nonneg_right (show g n + 1 ≤ B by omega) (Int.le_of_lt hp)
    rw [Int.add_mul, Int.one_mul, Int.mul_comm B] at h6
    constructor <;> omega
theorem dv_shift (B : Int) (g : Nat → Int) (n : Nat) : dv B g (n + 1) = g 0 + B * dv B (fun j => g (j + 1)) n := by
  induction n with
  | zero => simp [dv]
  | succ n ih =>
    rw [dv_s, ih, dv_s B (fun j => g (j + 1)), Int.pow_succ]
    grind
theorem dv_split (B : Int) (g : Nat → Int) (k m : Nat) : dv B g (k + m) = dv B g k + B ^ k * dv B (fun j => g (k + j)) m := by
  induction m with
  | zero => simp [dv]
  | succ m ih =>
    rw [← Nat.add_assoc, dv_s, ih, dv_s B (fun j => g (k + j)), Int.pow_add]
    grind
theorem dv_zero {B : Int} {g : Nat → Int} : ∀ {n : Nat}, (∀ k, k < n → g k = 0) → dv B g n = 0 := by
  intro n
  induction n with
  | zero => intro _; rfl
  | succ n ih => intro e; rw [dv_s, ih (fun k hk => e k (by omega)), e n (by omega)]; simp
/-- zeros on top are worth nothing -/
theorem dv_pad {B : Int} {g : Nat → Int} {n m : Nat} (h : n ≤ m) (e : ∀ k, n ≤ k → k < m → g k = 0) : dv B g m = dv B g n := by
  obtain ⟨d, rfl⟩ : ∃ d, m = n + d := ⟨m - n, by omega⟩
  rw [dv_split, dv_zero (fun k hk => e (n + k) (by omega) (by omega))]
  simp
theorem dv_top {B : Int} (hB : 0 < B) {g : Nat → Int} {n : Nat} (e : ∀ k, k < n + 1 → 0 ≤ g k ∧ g k < B) (ht : g n ≠ 0) : B ^ n ≤ dv B g (n + 1) := by
  have h1 := (dv_range hB (fun k hk => e k (Nat.lt_succ_of_lt hk))).1
  have h2 := (e n (by omega)).1
  have h3 := Int.mul_le_mul_of_nonneg_right (show 1 ≤ g n by omega) (Int.le_of_lt (ip_pos hB n))
  rw [dv_s]
  omega
theorem ip_le {B : Int} (hB : 1 < B) {n m : Nat} (h : n ≤ m) : B ^ n ≤ B ^ m := by
  induction m with
  | zero => obtain rfl : n = 0 := (by omega); exact Int.le_refl _
  | succ m ih =>
    by_cases e : n = m + 1
    · subst e; exact Int.le_refl _
    · have h1 := ih (by omega)
      have h2 := ip_pos (show 0 < B by omega) m
      rw [Int.pow_succ]
      have h3 := Int.mul_le_mul_of_nonneg_left (show 1 ≤ B by omega) (Int.le_of_lt h2)
      omega
/-- fewer limbs, less -/
theorem dv_len_lt {B : Int} (hB : 1 < B) {g h : Nat → Int} {n m : Nat} (hn : n < m) (eg : ∀ k, k < n → 0 ≤ g k ∧ g k < B) (eh : ∀ k, k < m → 0 ≤ h k ∧ h k < B) (ht : h (m - 1) ≠ 0) : dv B g n < dv B h m := by
  obtain ⟨j, rfl⟩ : ∃ j, m = j + 1 := ⟨m - 1, by omega⟩
  have h1 := (dv_range (show 0 < B by omega) eg).2
  have h2 := dv_top (show 0 < B by omega) eh ht
  have h3 := ip_le hB (show n ≤ j by omega)
  omega
/-- the highest difference decides -/
theorem dv_cmp_lt {B : Int} (hB : 0 < B) {g h : Nat → Int} {n k : Nat} (hk : k < n) (eg : ∀ k, k < n → 0 ≤ g k ∧ g k < B) (eh : ∀ k, k < n → 0 ≤ h k ∧ h k < B) (up : ∀ j, k < j → j < n → g j = h j) (lt : g k < h k) : dv B g n < dv B h n := by
  obtain ⟨d, rfl⟩ : ∃ d, n = (k + 1) + d := ⟨n - (k + 1), by omega⟩
  rw [dv_split, dv_split B h, dv_congr (g := fun j => g (k + 1 + j)) (h := fun j => h (k + 1 + j)) (fun j hj => up _ (by omega) (by omega))]
  have h1 := (dv_range hB (fun j hj => eg j (by omega : j < k + 1 + d)) : 0 ≤ dv B g k ∧ dv B g k < B ^ k)
  have h2 := (dv_range hB (fun j hj => eh j (by omega : j < k + 1 + d)) : 0 ≤ dv B h k ∧ dv B h k < B ^ k)
  have h3 := Int.mul_le_mul_of_nonneg_right (show g k + 1 ≤ h k by omega) (Int.le_of_lt (ip_pos hB k))
  rw [Int.add_mul, Int.one_mul] at h3
  rw [dv_s, dv_s]
  omega
theorem sg3 (x : Int) : (0 < x ∧ x.sign = 1) ∨ (x = 0 ∧ x.sign = 0) ∨ (x < 0 ∧ x.sign = -1) := by
  rcases Int.lt_trichotomy x 0 with h | h | h
  · exact Or.inr (Or.inr ⟨h, Int.sign_eq_neg_one_of_neg h⟩)
  · exact Or.inr (Or.inl ⟨h, by rw [h]; rfl⟩)
  · exact Or.inl ⟨h, Int.sign_eq_one_of_pos h⟩
/-- one more limb, with a carry (or, below 0, a borrow) -/
theorem dv_step {B : Int} {g g' : Nat → Int} {k : Nat} {A c s t : Int} (h : dv B g k + c * B ^ k = A) (hg : ∀ j, j < k → g' j = g j) (hs : g' k + t * B = c + s) : dv B g' (k + 1) + t * B ^ (k + 1) = A + s * B ^ k := by
  rw [dv_s, dv_congr hg, Int.pow_succ]
  have e : g' k = c + s - t * B := by omega
  rw [e]
  grind
/-- a limb below what stands above it -/
theorem dv_low (B : Int) (g : Nat → Int) {k n : Nat} (h : k < n) : dv B (fun j => g (k + j)) (n - k) = g k + B * dv B (fun j => g (k + 1 + j)) (n - (k + 1)) := by
  obtain ⟨m, rfl⟩ : ∃ m, n = k + (m + 1) := ⟨n - k - 1, by omega⟩
  rw [show k + (m + 1) - k = m + 1 by omega, show k + (m + 1) - (k + 1) = m by omega, dv_shift]
  have e : (fun j => g (k + (j + 1))) = fun j => g (k + 1 + j) := by
    funext j
    rw [show k + (j + 1) = k + 1 + j by omega]
  simp only [Nat.add_zero, e]
theorem dv_win0 (B : Int) (g : Nat → Int) (n : Nat) : dv B (fun j => g (0 + j)) (n - 0) = dv B g n := by
  rw [Nat.sub_zero]
  exact dv_congr (fun k _ => by rw [Nat.zero_add])
/-- one turn of a product's inner loop stays inside a limb and a carry -/
theorem mul_carry {B x y u c : Int} (hB : 0 < B) (hx : 0 ≤ x ∧ x < B) (hy : 0 ≤ y ∧ y < B) (hu : 0 ≤ u ∧ u < B) (hc : 0 ≤ c ∧ c < B) : 0 ≤ x * y + u + c ∧ x * y + u + c < B * B := by
  have h1 := Int.mul_nonneg hx.1 hy.1
  have h2 : x * y ≤ (B - 1) * (B - 1) := Int.mul_le_mul (by omega) (by omega) hy.1 (by omega)
  have h3 : (B - 1) * (B - 1) = B * B - 2 * B + 1 := by grind
  omega
