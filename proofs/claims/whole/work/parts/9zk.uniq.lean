/-! ONE COUNT: whatever chain it came from -/
section
variable {q p : Rat → Rat} {s N s' N' : Rat → Int} {c c' : Int} {b : Rat}
theorem rsx.uniq (h : rsx q s N c) (h' : rsx p s' N' c') (hb : b ≠ 0) (e : ∀ x, p x = b * q x) : (∀ x, N' x = N x) ∧ c' = c := by
  have pq : ∀ x, p x ≠ 0 ↔ q x ≠ 0 := fun x => by
    rw [e x]
    constructor
    · intro h1 h2; exact h1 (by rw [h2]; grind)
    · intro h1 h2
      rcases Rat.mul_eq_zero.1 h2 with h3 | h3
      · exact hb h3
      · exact h1 h3
  have bb : 0 < b * b := by
    rcases Rat.le_total (a := 0) (b := b) with h1 | h1
    · exact Rat.mul_pos (by grind) (by grind)
    · have : 0 < (-b) * (-b) := Rat.mul_pos (by grind) (by grind)
      grind
  have key : ∀ x y, x < y → q x ≠ 0 → q y ≠ 0 → N y - N x = N' y - N' x := by
    intro x y hxy qx qy
    obtain ⟨B, -, bx, bY⟩ := ab_two x y
    obtain ⟨d1, d10, h1⟩ := (h.2.1 B).step
    obtain ⟨d2, d20, h2⟩ := (h'.2.1 B).step
    obtain ⟨dd, dd0, dd1, dd2⟩ := min_pos d10 d20
    refine (h.2.1 B).grid0 h.1 dd0 (R := fun x y => N y - N x = N' y - N' x) (fun x y z _ _ _ _ _ _ _ _ a b => by omega) (fun x y bx bY hxy hcl qx qy => ?_) x y bx bY hxy qx qy
    have k1 := h1 x y bx bY hxy (by grind) qx qy
    have k2 := h2 x y bx bY hxy (by grind) ((pq x).2 qx) ((pq y).2 qy)
    rcases keep_nn qx qy with h3 | h3
    · have h4 : keep p x y := by
        unfold keep at *
        rw [e x, e y]
        have := Rat.mul_pos bb h3
        grind
      have := k1.1 h3
      have := k2.1 h4
      omega
    · have h4 : p x * p y < 0 := by
        rw [e x, e y]
        have := Rat.mul_pos bb (show 0 < -(q x * q y) by grind)
        grind
      have := k1.2 h3
      have := k2.2 h4
      omega
  obtain ⟨H, H0, hH⟩ := h.2.2
  obtain ⟨H', H0', hH'⟩ := h'.2.2
  have main : ∀ x, N' x = N x := by
    intro x
    obtain ⟨d, d0, hd⟩ := h.rlim x
    obtain ⟨d', d0', hd'⟩ := h'.rlim x
    obtain ⟨dd, dd0, dd1, dd2⟩ := min_pos d0 d0'
    have k1 := hd (x + dd / 2) (by grind) (by grind)
    have k2 := hd' (x + dd / 2) (by grind) (by grind)
    obtain ⟨b', b0', hb'⟩ := ab.self x
    have w1 := (hH (-(H + H' + b' + 1))).1 (by grind)
    have w2 := (hH' (-(H + H' + b' + 1))).1 (by grind)
    have := key (-(H + H' + b' + 1)) (x + dd / 2) (by unfold ab at hb'; grind) w1.2 k1.2
    omega
  refine ⟨main, ?_⟩
  have w1 := (hH (H + H')).2 (by grind)
  have w2 := (hH' (H + H')).2 (by grind)
  have := main (H + H')
  omega
end
/-- two chains of one polynomial -/
theorem gch.uniq {P : Nat → Int} {n M M' : Nat} {F F' : Nat → Nat → Int} {d d' : Nat → Nat} (h : gch P n M F d) (h' : gch P n M' F' d') : (∀ x, cN F' d' M' x = cN F d M x) ∧ vlo F' d' M' - vhi F' d' M' = vlo F d M - vhi F d M ∧ d' 0 = d 0 ∧ ∃ b : Rat, b ≠ 0 ∧ ∀ x, lk F' d' 0 x = b * lk F d 0 x := by
  obtain ⟨s, hs⟩ := h.rs
  obtain ⟨s', hs'⟩ := h'.rs
  have main : d' 0 = d 0 ∧ ∃ b : Rat, b ≠ 0 ∧ ∀ x, lk F' d' 0 x = b * lk F d 0 x := by
    obtain ⟨-, -, -, -, h5⟩ := h
    obtain ⟨-, -, -, -, h5'⟩ := h'
    rcases h5 with ⟨a1, a2, a3, a4⟩ | ⟨a1, a2, -, a4, a5, a6, a7⟩ <;> rcases h5' with ⟨b1, b2, b3, b4⟩ | ⟨b1, b2, -, b4, b5, b6, b7⟩
    · refine ⟨by omega, 1, by grind, fun x => ?_⟩
      show ev (F' 0) (d' 0 + 1) x = 1 * ev (F 0) (d 0 + 1) x
      rw [a4, b4, a3, b3]
      grind
    · omega
    · omega
    · exact fcp_uniq a7 b7
  obtain ⟨m1, b, hb, e⟩ := main
  obtain ⟨u1, u2⟩ := hs.uniq hs' hb e
  exact ⟨u1, u2, m1, b, hb, e⟩
