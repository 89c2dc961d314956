/-! THE REFERENCE'S CELLS: halving -/
theorem hv_xl (F : Nat → Nat → Int) (d : Nat → Nat) (C : Int) (j : Nat) : (hv (F 0) (d 0) (lowv C j) (j - 44) (d 0 + 1)).sign = sgr (lk F d 0 (xl C j)) := hv_sg _ _ _ _
section
variable {P : Nat → Int} {n M : Nat} {F : Nat → Nat → Int} {d : Nat → Nat}
theorem gch.dq (h : gch P n M F d) (h1 : 1 ≤ d 0) (x : Rat) : lk F d 1 x = ev (dP (F 0)) (d 0) x := ((h.bzq h1).1).uniq (ev_df (F 0) (d 0 + 1)) x
/-- the sign just above a point -/
theorem gch.abv (h : gch P n M F d) (h1 : 1 ≤ d 0) (x : Rat) : ∃ e : Rat, 0 < e ∧ ∀ y, x < y → y - x < e → sgr (lk F d 0 y) = (if sgr (lk F d 0 x) = 0 then sgr (lk F d 1 x) else sgr (lk F d 0 x)) ∧ cN F d M y = cN F d M x ∧ lk F d 0 y ≠ 0 := by
  obtain ⟨s, hs⟩ := h.rs
  obtain ⟨e, he, hr⟩ := hs.rlim x
  by_cases hx : lk F d 0 x = 0
  · obtain ⟨hdf, u, w, -, -, hb⟩ := h.bzq h1
    have hq1 : lk F d 1 x ≠ 0 := fun h0 => by
      have := hb x
      rw [hx, h0] at this
      grind
    rw [if_pos (sgr_z.2 hx)]
    obtain ⟨B, B0, hxB, -⟩ := ab_two x x
    have hε : ∃ ε : Rat, 0 < ε ∧ (ε ≤ lk F d 1 x ∨ lk F d 1 x ≤ -ε) := by
      rcases sgr_r (lk F d 1 x) with g | g | g
      · exact ⟨-lk F d 1 x, by grind, by grind⟩
      · grind
      · exact ⟨lk F d 1 x, by grind, by grind⟩
    obtain ⟨ε, hε0, hε1⟩ := hε
    obtain ⟨e2, he2, hrise⟩ := hdf.rise hε0 (B + 1)
    obtain ⟨e3, h30, h31, h32⟩ := min_pos he he2
    obtain ⟨e4, h40, h41, h42⟩ := min_pos h30 (show (0 : Rat) < 1 by grind)
    refine ⟨e4, h40, fun y y1 y2 => ?_⟩
    have a1 := hr y y1 (by grind)
    have a2 := hrise x y (by unfold ab at *; grind) (by unfold ab at *; grind) y1 (by grind)
    refine ⟨?_, a1.1, a1.2⟩
    rw [hx] at a2
    rcases hε1 with h9 | h9
    · have := a2.1 h9
      rcases sgr_r (lk F d 0 y) with g | g | g <;> rcases sgr_r (lk F d 1 x) with k | k | k <;> grind
    · have := a2.2 h9
      rcases sgr_r (lk F d 0 y) with g | g | g <;> rcases sgr_r (lk F d 1 x) with k | k | k <;> grind
  · rw [if_neg (sgr_ne.2 hx)]
    refine ⟨e, he, fun y y1 y2 => ?_⟩
    have a1 := hr y y1 y2
    exact ⟨(hs.par (Rat.le_of_lt y1) hx a1.2).1 a1.1, a1.1, a1.2⟩
theorem gch.sdx (h : gch P n M F d) (h1 : 1 ≤ d 0) (C : Int) (j : Nat) : sdv (F 0) (d 0) (lowv C j) (j - 44) = (if sgr (lk F d 0 (xl C j)) = 0 then sgr (lk F d 1 (xl C j)) else sgr (lk F d 0 (xl C j))) := by
  have e1 : (hv (fun k => F 0 (k + 1) * ((k : Int) + 1)) (d 0 - 1) (lowv C j) (j - 44) (d 0)).sign = sgr (lk F d 1 (xl C j)) := by
    obtain ⟨m, hm⟩ : ∃ m, d 0 = m + 1 := ⟨d 0 - 1, by omega⟩
    have h2 := hv_sg (fun k => F 0 (k + 1) * ((k : Int) + 1)) m (lowv C j) (j - 44)
    rw [h.dq h1, hm, Nat.add_sub_cancel, h2]
    unfold xl
    rw [ev_congr (P := fun k => F 0 (k + 1) * ((k : Int) + 1)) (Q := dP (F 0)) (fun k _ => by unfold dP; rw [Int.mul_comm])]
  unfold sdv
  rw [hv_xl, e1]
/-- the half that a cell's root lies in is its cell too -/
theorem gch.hlf (h : gch P n M F d) (h1 : 1 ≤ d 0) {i C x : Int} {j : Nat} (hc : rce (lk F d 0) (cN F d M) i C j x) : rce (lk F d 0) (cN F d M) i (rfn (F 0) (d 0) C j x).1 (j + 1) (rfn (F 0) (d 0) C j x).2 := by
  obtain ⟨s, hs⟩ := h.rs
  obtain ⟨c1, c2, c3⟩ := hc
  have hj0 : j = 0 → C = 0 := fun h0 => by subst h0; rw [Int.pow_zero] at c2; omega
  have p2 : (2 : Int) ^ (j + 1) = 2 ^ j * 2 := Int.pow_succ _ _
  have w0 := wd_pos (j + 1)
  have wh := wd_h j
  have xd := xl_dn C hj0
  have xu := xl_up C hj0
  have xm : xl (C * 2 ^ 1 + 1) (j + 1) = xl C j + wd (j + 1) := by rw [xl_s _ (by omega), xd]
  have em : mdv (F 0) (d 0) C j = sgr (lk F d 0 (xl (C * 2 ^ 1 + 1) (j + 1))) := hv_xl F d (C * 2 ^ 1 + 1 * 1) (j + 1)
  have es := h.sdx h1 C j
  show rce _ _ i (rfn (F 0) (d 0) C j x).1 (j + 1) (rfn (F 0) (d 0) C j x).2
  rcases c3 with ⟨x1, q1, q2⟩ | ⟨x0, q1, q2⟩
  · have e : rfn (F 0) (d 0) C j x = (C * 2 ^ 1, x) := if_neg (by omega)
    rw [e]
    exact ⟨by show 0 ≤ C * 2 ^ 1; omega, by show C * 2 ^ 1 < 2 ^ (j + 1); omega, Or.inl ⟨x1, by rw [xd]; exact q1, by rw [xd]; exact q2⟩⟩
  · obtain ⟨e, he, hr⟩ := h.abv h1 (xl C j)
    rw [← es] at hr
    obtain ⟨e', he', f1, f2⟩ := min_pos he w0
    have hy := hr (xl C j + e' / 2) (by grind) (by grind)
    have m1 : xl C j + e' / 2 ≤ xl (C * 2 ^ 1 + 1) (j + 1) := by rw [xm]; grind
    have m2 : xl C j < xl (C * 2 ^ 1 + 1) (j + 1) := by rw [xm]; grind
    have m3 : xl (C * 2 ^ 1 + 1) (j + 1) < xl C j + wd j := by rw [xm, wh]; grind
    have n1 := hs.nmm m2
    have n2 := hs.nmm m3
    have n3 := nm_N (lk F d 0) (cN F d M) (xl (C * 2 ^ 1 + 1) (j + 1))
    have en : rfn (F 0) (d 0) C j x = (if mdv (F 0) (d 0) C j = 0 then (C * 2 ^ 1 + 1 * 1, 1) else if mdv (F 0) (d 0) C j = sdv (F 0) (d 0) (lowv C j) (j - 44) then (C * 2 ^ 1 + 1 * 1, 0) else (C * 2 ^ 1 + 1 * 1 + -1 * 1, 0)) := if_pos x0
    rw [en, em, show C * 2 ^ 1 + 1 * 1 + -1 * 1 = C * 2 ^ 1 by omega, show C * 2 ^ 1 + 1 * 1 = C * 2 ^ 1 + 1 by omega]
    by_cases hz : lk F d 0 (xl (C * 2 ^ 1 + 1) (j + 1)) = 0
    · rw [if_pos (sgr_z.2 hz)]
      have := n3.2.2.1 hz
      exact ⟨by show 0 ≤ C * 2 ^ 1 + 1; omega, by show C * 2 ^ 1 + 1 < 2 ^ (j + 1); omega, Or.inl ⟨rfl, hz, by show nm _ _ (xl (C * 2 ^ 1 + 1) (j + 1)) = i; omega⟩⟩
    · rw [if_neg (sgr_ne.2 hz)]
      have hp := hs.par m1 hy.2.2 hz
      have hnz := sgr_ne.2 hy.2.2
      have hnn : nm (lk F d 0) (cN F d M) (xl (C * 2 ^ 1 + 1) (j + 1)) = cN F d M (xl (C * 2 ^ 1 + 1) (j + 1)) := if_neg hz
      by_cases hq : sgr (lk F d 0 (xl (C * 2 ^ 1 + 1) (j + 1))) = sdv (F 0) (d 0) (lowv C j) (j - 44)
      · rw [if_pos hq]
        refine ⟨by show 0 ≤ C * 2 ^ 1 + 1; omega, by show C * 2 ^ 1 + 1 < 2 ^ (j + 1); omega, Or.inr ⟨rfl, ?_, by show nm _ _ (xl (C * 2 ^ 1 + 1) (j + 1) + wd (j + 1)) = i + 1; rw [xu]; exact q2⟩⟩
        show cN F d M (xl (C * 2 ^ 1 + 1) (j + 1)) = i
        rcases (show cN F d M (xl (C * 2 ^ 1 + 1) (j + 1)) = i ∨ cN F d M (xl (C * 2 ^ 1 + 1) (j + 1)) = i + 1 by omega) with h9 | h9
        · exact h9
        · have := hp.2 (by omega)
          rw [hq, hy.1] at this
          have := hy.1
          omega
      · rw [if_neg hq]
        refine ⟨by show 0 ≤ C * 2 ^ 1; omega, by show C * 2 ^ 1 < 2 ^ (j + 1); omega, Or.inr ⟨rfl, by show cN F d M (xl (C * 2 ^ 1) (j + 1)) = i; rw [xd]; exact q1, ?_⟩⟩
        show nm _ _ (xl (C * 2 ^ 1) (j + 1) + wd (j + 1)) = i + 1
        rw [xd, ← xm, hnn]
        rcases (show cN F d M (xl (C * 2 ^ 1 + 1) (j + 1)) = i ∨ cN F d M (xl (C * 2 ^ 1 + 1) (j + 1)) = i + 1 by omega) with h9 | h9
        · have := hp.1 (by omega)
          rw [hy.1] at this
          exact absurd this hq
        · exact h9
/-- all fits at depths up to 1989 -/
theorem gch.fitR (h : gch P n M F d) {C : Int} {D : Nat} (c1 : 0 ≤ C) (c2 : C < 2 ^ D) (hD : D ≤ 1989) : bds (F 0) (d 0) 127 876 126 C D := by
  have h8 : d 0 ≤ 8 := by have := h.cnt; have := h.2.2.1; omega
  have hb : ∀ k, (F 0 k).natAbs ≤ 2 ^ 52 := fun k => Nat.le_trans (h.bits.1 k) (Nat.pow_le_pow_right (by omega) (fbm_52 _ h8))
  have hb3 : ∀ k, (F 0 (k + 1) * ((k : Int) + 1)).natAbs ≤ 2 ^ 55 := fun k => by
    rcases Nat.lt_or_ge k (d 0) with h9 | h9
    · rw [Int.natAbs_mul]
      exact Nat.le_trans (Nat.mul_le_mul (hb _) (show ((k : Int) + 1).natAbs ≤ 8 by omega)) (by decide)
    · have hz : F 0 (k + 1) = 0 := by
        rcases h.2.2.2.2 with ⟨a1, a2, a3, a4⟩ | ⟨a1, a2, ⟨f, g, hf, hg, a3⟩, -⟩
        · rw [a4]; exact h.1 _ (by omega)
        · obtain ⟨sc, ht, hc, -⟩ := a3
          exact (hc.1 0 (by omega)).1 _ (by omega)
      rw [hz, Int.zero_mul]; exact Nat.zero_le _
  have p1 : (2 : Int) ^ (D + 1) = 2 ^ D * 2 := Int.pow_succ _ _
  have l0 := Nat.le_trans (low_bd c1 (Int.le_of_lt c2)) (Nat.pow_le_pow_right (n := 2) (by omega) (show 43 + (D - 44) ≤ 1990 by omega))
  have l1 := Nat.le_trans (low_bd (C := C * 2 ^ 1 + 1 * 1) (j := D + 1) (by omega) (by omega)) (Nat.pow_le_pow_right (n := 2) (by omega) (show 43 + (D + 1 - 44) ≤ 1990 by omega))
  have key : ∀ {A : Nat → Int} {X : Int} {ex m i : Nat}, (∀ k, (A k).natAbs ≤ 2 ^ 55) → X.natAbs ≤ 2 ^ 1990 → ex ≤ 1990 → i ≤ 8 → ((hv A m X ex i).natAbs : Int) < 65536 ^ 876 := fun {A X ex m i} hA hX he hi => by
    refine lh16 (x := 13988) (Nat.le_trans (hv_bd hA hX he i) ?_) (by decide)
    refine Nat.le_trans (Nat.mul_le_mul (show i ≤ 2 ^ 3 by omega) (Nat.pow_le_pow_right (by omega) (show 55 + 1990 * (i - 1) ≤ 13985 by omega))) ?_
    rw [← Nat.pow_add]
    exact Nat.le_refl _
  have hb5 : ∀ k, (F 0 k).natAbs ≤ 2 ^ 55 := fun k => Nat.le_trans (hb k) (Nat.pow_le_pow_right (by omega) (by omega))
  refine ⟨lh16 (x := 1990) ?_ (by decide), lh16 l0 (by decide), fun i hi => key hb5 l0 (by omega) (by omega), fun i hi => key hb3 l0 (by omega) (by omega), lh16 l1 (by decide), fun i hi => key hb5 l1 (by omega) (by omega)⟩
  have h3 : C.natAbs ≤ 2 ^ D := by
    have e : ((2 ^ D : Nat) : Int) = 2 ^ D := Int.natCast_pow 2 D
    generalize (2 : Nat) ^ D = A at *
    generalize (2 : Int) ^ D = B at *
    omega
  exact Nat.le_trans h3 (Nat.pow_le_pow_right (by omega) (by omega))
theorem gch.fitP (h : gch P n M F d) : ∀ k, ((F 0 k).natAbs : Int) < 65536 ^ 4 := fun k => by
  have h8 : d 0 ≤ 8 := by have := h.cnt; have := h.2.2.1; omega
  exact lh16 (Nat.le_trans (h.bits.1 k) (Nat.pow_le_pow_right (by omega) (fbm_52 _ h8))) (by decide)
/-- .. and changes at depths up to 1500 -/
theorem gch.fitC (h : gch P n M F d) {C : Int} {j : Nat} (c1 : 0 ≤ C) (c2 : C < 2 ^ j) (hj : j ≤ 1500) : (C.natAbs : Int) < 65536 ^ 95 ∧ ((lowv C j).natAbs : Int) < 65536 ^ 94 ∧ ∀ s, s ≤ d 0 → ∀ i, ((cT (F 0) (d 0) (lowv C j) (44 - j) (j - 44) s i).natAbs : Int) < 65536 ^ 760 := by
  have h8 : d 0 ≤ 8 := by have := h.cnt; have := h.2.2.1; omega
  have hb : ∀ k, (F 0 k).natAbs ≤ 2 ^ 52 := fun k => Nat.le_trans (h.bits.1 k) (Nat.pow_le_pow_right (by omega) (fbm_52 _ h8))
  have h3 : C.natAbs ≤ 2 ^ j := by
    have e : ((2 ^ j : Nat) : Int) = 2 ^ j := Int.natCast_pow 2 j
    generalize (2 : Nat) ^ j = A at *
    generalize (2 : Int) ^ j = B at *
    omega
  have l0 := low_bd c1 (Int.le_of_lt c2)
  refine ⟨lh16 (x := 1500) (Nat.le_trans h3 (Nat.pow_le_pow_right (by omega) hj)) (by decide), lh16 (x := 1499) (Nat.le_trans l0 (Nat.pow_le_pow_right (by omega) (by omega))) (by decide), fun s hs i => ?_⟩
  rcases Nat.lt_or_ge s i with h9 | h9
  · rw [cT_z s i h9]
    exact ip_pos (by decide) _
  · have h5 := cT_bd (n := d 0) (W := 44 - j) (f := j - 44) (Y := 1500) hb (Nat.le_trans l0 (Nat.pow_le_pow_right (by omega) (by omega))) (by omega) s i h9
    refine lh16 (x := 12100) (Nat.le_trans h5 (Nat.pow_le_pow_right (by omega) ?_)) (by decide)
    have h6 : (44 - j) * i ≤ 1500 * i := Nat.mul_le_mul_right _ (by omega)
    have h7 : 1500 * (s - i) + 1500 * i = 1500 * s := by rw [← Nat.mul_add]; congr 1; omega
    omega
end
