/-! THE GUESS: not above the quotient -/
theorem gs_a {g : Nat → Int} {n M : Nat} {R : Int} (hd : ∀ k, k < n → 0 ≤ g k ∧ g k < 65536) (hR : dv 65536 g n = R) (hM : 2 ≤ M) : gav g n M 3 * 65536 ^ (M - 2) ≤ R := by
  have hp := pd_r16 hd
  have e1 : dv 65536 (pd g n) ((M - 2) + (3 + n)) = R := by rw [dv_pd (by omega)]; exact hR
  rw [dv_split, dv_split 65536 (fun j => pd g n (M - 2 + j)) 3 n] at e1
  have h1 := (dv_range (B := 65536) (by decide) (g := pd g n) (n := M - 2) (fun k _ => hp k)).1
  have h2 := (dv_range (B := 65536) (by decide) (g := fun j => pd g n (M - 2 + (3 + j))) (n := n) (fun k _ => hp _)).1
  have hE := ip_pos (B := 65536) (by decide) (M - 2)
  have e2 : dv 65536 (fun j => pd g n (M - 2 + j)) 3 = gav g n M 3 := by
    simp only [dv, gav, pz]
    rw [if_pos (by omega), if_pos (by omega), if_pos (by omega), show ((M : Int) - (0 : Nat)).toNat = M - 2 + 2 by omega, show ((M : Int) - ((0 + 1 : Nat) : Int)).toNat = M - 2 + 1 by omega, show ((M : Int) - ((0 + 1 + 1 : Nat) : Int)).toNat = M - 2 + 0 by omega]
    grind
  rw [e2] at e1
  have h3 := Int.mul_nonneg (Int.le_of_lt hE) (Int.mul_nonneg (show (0 : Int) ≤ 65536 ^ 3 by decide) h2)
  rw [Int.mul_add] at e1
  rw [Int.mul_comm]
  omega
theorem gs_b {h : Nat → Int} {M : Nat} {Y : Int} (hd : ∀ k, k < M → 0 ≤ h k ∧ h k < 65536) (hY : dv 65536 h M = Y) (hM : 2 ≤ M) : Y < (gbv h M 2 + 1) * 65536 ^ (M - 2) := by
  obtain ⟨k, rfl⟩ : ∃ k, M = k + 2 := ⟨M - 2, by omega⟩
  have h1 := (dv_range (B := 65536) (by decide) (g := h) (n := k) (fun i hi => hd i (by omega))).2
  have e2 : gbv h (k + 2) 2 = h (k + 1) * 65536 + h k := by
    simp only [gbv, pz, pd]
    rw [if_pos (by omega), if_pos (by omega), if_pos (by omega), if_pos (by omega), show (((k + 2 : Nat) : Int) - ((0 : Nat) + 1)).toNat = k + 1 by omega, show (((k + 2 : Nat) : Int) - (((0 + 1 : Nat) : Int) + 1)).toNat = k by omega]
    grind
  rw [show k + 2 - 2 = k by omega, e2]
  rw [dv_s, dv_s, Int.pow_succ] at hY
  have e3 : (h (k + 1) * 65536 + h k + 1) * 65536 ^ k = h k * 65536 ^ k + h (k + 1) * (65536 ^ k * 65536) + 65536 ^ k := by grind
  omega
theorem gs_fin {a b E F R Y : Int} (hE : 0 < E) (hF : 0 < F) (h1 : a * E ≤ R * F) (h2 : Y * F < (b + 1) * E) (hb : 0 ≤ b) (hYR : Y ≤ R) : 1 ≤ (if a / (b + 1) < 1 then 1 else a / (b + 1)) ∧ (if a / (b + 1) < 1 then 1 else a / (b + 1)) * Y ≤ R := by
  by_cases h : a / (b + 1) < 1
  · rw [if_pos h]; omega
  · rw [if_neg h]
    refine ⟨by omega, ?_⟩
    have e1 := Int.ediv_mul_le a (show b + 1 ≠ 0 by omega)
    have e2 := Int.mul_le_mul_of_nonneg_left (Int.le_of_lt h2) (show 0 ≤ a / (b + 1) by omega)
    have e3 := Int.mul_le_mul_of_nonneg_right e1 (Int.le_of_lt hE)
    have e4 : a / (b + 1) * (b + 1) * E = a / (b + 1) * ((b + 1) * E) := Int.mul_assoc _ _ _
    have e5 : a / (b + 1) * Y * F = a / (b + 1) * (Y * F) := Int.mul_assoc _ _ _
    exact Int.le_of_mul_le_mul_right (by omega) hF
/-- what the guess is worth -/
theorem gs_ok {g h : Nat → Int} {n M : Nat} {R Y : Int} (hg : ∀ k, k < n → 0 ≤ g k ∧ g k < 65536) (hh : ∀ k, k < M → 0 ≤ h k ∧ h k < 65536) (hR : dv 65536 g n = R) (hY : dv 65536 h M = Y) (hM : 0 < M) (hYR : Y ≤ R) : 1 ≤ (if gav g n M 3 / (gbv h M 2 + 1) < 1 then 1 else gav g n M 3 / (gbv h M 2 + 1)) ∧ (if gav g n M 3 / (gbv h M 2 + 1) < 1 then 1 else gav g n M 3 / (gbv h M 2 + 1)) * Y ≤ R := by
  have hb := (gbv_r hh 2 (by omega)).1
  rcases (show 2 ≤ M ∨ M = 1 by omega) with h2 | rfl
  · have h3 := gs_a hg hR h2
    have h4 := gs_b hh hY h2
    exact gs_fin (ip_pos (B := 65536) (by decide) (M - 2)) (show (0 : Int) < 1 by decide) (by rw [Int.mul_one]; exact h3) (by rw [Int.mul_one]; exact h4) hb hYR
  · have hp := pd_r16 hg
    have e1 : dv 65536 (pd g n) (2 + n) = R := by rw [dv_pd (by omega)]; exact hR
    rw [dv_split] at e1
    have h3 := (dv_range (B := 65536) (by decide) (g := fun j => pd g n (2 + j)) (n := n) (fun k _ => hp _)).1
    have e2 : gav g n 1 3 = (pd g n 1 * 65536 + pd g n 0) * 65536 := by
      simp only [gav, pz]
      rw [if_pos (by omega), if_pos (by omega), if_neg (by omega), show (((1 : Nat) : Int) - (0 : Nat)).toNat = 1 by omega, show (((1 : Nat) : Int) - ((0 + 1 : Nat) : Int)).toNat = 0 by omega]
      grind
    have e3 : gbv h 1 2 = h 0 * 65536 := by
      simp only [gbv, pz, pd]
      rw [if_pos (by omega), if_pos (by omega), if_neg (by omega), show (((1 : Nat) : Int) - ((0 : Nat) + 1)).toNat = 0 by omega]
      grind
    have e4 : Y = h 0 := by rw [← hY]; simp [dv]
    have e5 : dv 65536 (pd g n) 2 = pd g n 0 + pd g n 1 * 65536 := by simp [dv]
    have h5 := Int.mul_nonneg (show (0 : Int) ≤ 65536 ^ 2 by decide) h3
    refine gs_fin (E := 1) (F := 65536) (by decide) (by decide) ?_ ?_ hb hYR
    · rw [e2]; omega
    · rw [e3, e4]; omega
