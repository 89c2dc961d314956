/-! THE REFERENCE'S CELLS: where they lie -/
/-- the low end of cell C at depth j, and its width -/
noncomputable def xl (C : Int) (j : Nat) : Rat := ((lowv C j : Int) : Rat) / ((2 ^ (j - 44) : Int) : Rat)
noncomputable def wd (j : Nat) : Rat := ((2 ^ (44 - j) : Int) : Rat) / ((2 ^ (j - 44) : Int) : Rat)
theorem wd_un (j : Nat) : wd j = un ((j : Int) - 44) := by
  unfold wd un dy ptX ptE
  rw [show (max 0 ((j : Int) - 44)).toNat = j - 44 by omega]
  split
  · rw [show 44 - j = 0 by omega, Int.pow_zero]
  · rw [show (-((j : Int) - 44)).toNat = 44 - j by omega, Int.one_mul]
theorem xl_dy (C : Int) {j : Nat} (hj : 1 ≤ j) : xl C j = dy (C - 2 ^ (j - 1)) ((j : Int) - 44) := by
  unfold xl dy lowv ptX ptE
  rw [if_neg (by omega), show (max 0 ((j : Int) - 44)).toNat = j - 44 by omega]
  split
  · rw [show 44 - j = 0 by omega, Int.pow_zero, Int.mul_one]
  · rw [show (-((j : Int) - 44)).toNat = 44 - j by omega]
theorem xl_00 : xl 0 0 = -wd 1 ∧ wd 0 = 2 * wd 1 := by
  constructor
  · unfold xl wd lowv
    rw [if_pos rfl, show 0 - 44 = 0 from rfl, show 44 - 1 = 43 from rfl, tp0, div_1, div_1]
    show ((-8796093022208 : Int) : Rat) = -((8796093022208 : Int) : Rat)
    rw [← Rat.intCast_neg]
  · rw [wd_un, wd_un, un_h]; rfl
theorem wd_pos (j : Nat) : 0 < wd j := by rw [wd_un]; exact un_pos _
theorem wd_h (j : Nat) : wd j = 2 * wd (j + 1) := by
  rw [wd_un, wd_un, un_h, show (j : Int) - 44 + 1 = ((j + 1 : Nat) : Int) - 44 by omega]
theorem xl_s (C : Int) {j : Nat} (hj : 1 ≤ j) : xl (C + 1) j = xl C j + wd j := by
  rw [xl_dy _ hj, xl_dy _ hj, wd_un, ← dy_s, show C + 1 - 2 ^ (j - 1) = C - 2 ^ (j - 1) + 1 by omega]
/-- the left half begins where the cell does -/
theorem xl_dn (C : Int) {j : Nat} (h0 : j = 0 → C = 0) : xl (C * 2 ^ 1) (j + 1) = xl C j := by
  rcases Nat.eq_zero_or_pos j with h | h
  · subst h
    rw [h0 rfl, xl_00.1, Int.zero_mul, xl_dy _ (by omega), wd_un]
    show dy (0 - 2 ^ 0) (1 - 44) = -un (1 - 44)
    rw [dy_u]
    have : ((0 - 2 ^ 0 : Int) : Rat) = -1 := by
      rw [show (0 - 2 ^ 0 : Int) = -1 by decide]; rfl
    rw [this]; grind
  · rw [xl_dy _ (by omega), xl_dy _ h, Nat.add_sub_cancel]
    have e1 : C * 2 ^ 1 - 2 ^ j = (C - 2 ^ (j - 1)) * 2 ^ 1 := by
      obtain ⟨i, rfl⟩ : ∃ i, j = i + 1 := ⟨j - 1, by omega⟩
      rw [Nat.add_sub_cancel, Int.pow_succ 2 i]; omega
    rw [e1, show ((j + 1 : Nat) : Int) - 44 = (j : Int) - 44 + 1 by omega, dy_2]
/-- the right half ends where the cell does -/
theorem xl_up (C : Int) {j : Nat} (h0 : j = 0 → C = 0) : xl (C * 2 ^ 1 + 1) (j + 1) + wd (j + 1) = xl C j + wd j := by
  rw [xl_s _ (by omega), xl_dn C h0, wd_h j]; grind
theorem low_bd {C : Int} {j : Nat} (h1 : 0 ≤ C) (h2 : C ≤ 2 ^ j) : (lowv C j).natAbs ≤ 2 ^ (43 + (j - 44)) := by
  unfold lowv
  split
  · exact Nat.le_trans (show (-8796093022208 : Int).natAbs ≤ 2 ^ 43 by decide) (Nat.pow_le_pow_right (by omega) (by omega))
  · rename_i h
    obtain ⟨i, rfl⟩ : ∃ i, j = i + 1 := ⟨j - 1, by omega⟩
    rw [Nat.add_sub_cancel]
    have h3 : (C - 2 ^ i).natAbs ≤ 2 ^ i := by
      rw [Int.pow_succ] at h2
      have e : ((2 ^ i : Nat) : Int) = 2 ^ i := Int.natCast_pow 2 i
      generalize (2 : Nat) ^ i = A at *
      generalize (2 : Int) ^ i = B at *
      omega
    rw [Int.natAbs_mul, Int.natAbs_pow]
    refine Nat.le_trans (Nat.mul_le_mul_right _ h3) ?_
    rw [show (2 : Int).natAbs = 2 from rfl, ← Nat.pow_add]
    exact Nat.pow_le_pow_right (by omega) (by omega)
/-- how many changes a cell has -/
noncomputable def chg (F : Nat → Nat → Int) (d : Nat → Nat) (C : Int) (j : Nat) : Int := (vr (fun k => (be (d 0) (cT (F 0) (d 0) (lowv C j) (44 - j) (j - 44) (d 0)) k).sign) (d 0 + 1)).1
section
variable {P : Nat → Int} {n M : Nat} {F : Nat → Nat → Int} {d : Nat → Nat}
theorem cell_q (F : Nat → Nat → Int) (d : Nat → Nat) (C : Int) (j : Nat) (t : Rat) : ((2 ^ ((j - 44) * d 0) : Int) : Rat) * lk F d 0 (xl C j + wd j * t) = ev (cT (F 0) (d 0) (lowv C j) (44 - j) (j - 44) (d 0)) (d 0 + 1) t := cT_q (F 0) (d 0) (lowv C j) (44 - j) (j - 44) t
theorem gch.nz0 (h : gch P n M F d) (lo : Rat) {w : Rat} (hw : 0 < w) : ∃ t, lk F d 0 (lo + w * t) ≠ 0 := by
  obtain ⟨s, hs⟩ := h.rs
  obtain ⟨H, H0, hH⟩ := hs.2.2
  obtain ⟨L, hL0, hL⟩ := ab.self lo
  refine ⟨(H + L) / w, ?_⟩
  have e : w * ((H + L) / w) = H + L := by rw [Rat.mul_comm]; exact Rat.div_mul_cancel (by grind)
  rw [e]
  exact ((hH _).2 (by unfold ab at hL; grind)).2
theorem gch.chg0 (h : gch P n M F d) {C : Int} {j : Nat} (hv : chg F d C j = 0) : nm (lk F d 0) (cN F d M) (xl C j + wd j) = cN F d M (xl C j) ∧ ∃ σ : Int, (σ = 1 ∨ σ = -1) ∧ ∀ x, xl C j < x → x < xl C j + wd j → sgr (lk F d 0 x) = σ := by
  obtain ⟨s, hs⟩ := h.rs
  obtain ⟨B, -, hx, hy⟩ := ab_two (xl C j) (xl C j + wd j)
  have := (hs.2.1 B).desc0 hs.1 hx hy (wd_pos j) (tpp _) (cell_q F d C j) (by
    refine Classical.byContradiction (fun hc => ?_)
    obtain ⟨t, ht⟩ := h.nz0 (xl C j) (wd_pos j)
    have h1 := cell_q F d C j t
    have h2 : ev (cT (F 0) (d 0) (lowv C j) (44 - j) (j - 44) (d 0)) (d 0 + 1) t = 0 := by
      rw [be_ev]
      have : ∀ k, k ≤ d 0 + 1 → bv (be (d 0) (cT (F 0) (d 0) (lowv C j) (44 - j) (j - 44) (d 0))) (d 0) t k = 0 := by
        intro k
        induction k with
        | zero => intro _; rfl
        | succ k ih =>
          intro hk
          rw [bv, ih (by omega)]
          have : be (d 0) (cT (F 0) (d 0) (lowv C j) (44 - j) (j - 44) (d 0)) k = 0 := Decidable.not_not.1 (fun h9 => hc ⟨k, by omega, h9⟩)
          rw [this]
          have z : ((0 : Int) : Rat) = 0 := rfl
          rw [z]; grind
      exact this _ (Nat.le_refl _)
    rw [h2] at h1
    rcases Rat.mul_eq_zero.1 h1 with h3 | h3
    · exact p2c _ h3
    · exact ht h3) hv
  exact ⟨this.2, this.1⟩
theorem gch.chg1 (h : gch P n M F d) {C : Int} {j : Nat} (hv : chg F d C j = 1) : nm (lk F d 0) (cN F d M) (xl C j + wd j) = cN F d M (xl C j) + 1 := by
  obtain ⟨s, hs⟩ := h.rs
  obtain ⟨B, -, hx, hy⟩ := ab_two (xl C j) (xl C j + wd j)
  exact (hs.2.1 B).desc1 hs.1 hx hy (wd_pos j) (tpp _) (cell_q F d C j) hv
theorem gch.chgJ (h : gch P n M F d) (h1 : 1 ≤ d 0) {C : Int} {j : Nat} (c1 : 0 ≤ C) (c2 : C ≤ 2 ^ j) (hj : 1274 ≤ j) : chg F d C j ≤ 1 := by
  unfold chg
  rw [show 44 - j = 0 by omega]
  exact h.ch1 h1 (by omega) (low_bd c1 c2)
/-- all roots lie between the ends of all -/
theorem gch.ends0 (h : gch P n M F d) : cN F d M (xl 0 0) = 0 ∧ nm (lk F d 0) (cN F d M) (xl 0 0 + wd 0) = vlo F d M - vhi F d M := by
  obtain ⟨s, hs⟩ := h.rs
  obtain ⟨r1, r2, r3⟩ := h.rch (Or.inl rfl)
  have hu : wd 1 = un (-43) := wd_un 1
  have h32 : un (-43) = 2048 * un (-32) := by
    rw [un_k (-43) 11]
    rfl
  have hp := un_pos (-32)
  have e1 : dy (-1) (-32) = -un (-32) := by rw [dy_u]; have : ((-1 : Int) : Rat) = -1 := rfl; rw [this]; grind
  have e2 : dy 1 (-32) = un (-32) := rfl
  have r1 : nm (lk F d 0) (cN F d M) (dy (-1) (-32)) = 0 := r1
  have r2 : cN F d M (dy 1 (-32)) = _ := r2
  rw [e1] at r1
  rw [e2] at r2
  have x1 : xl 0 0 < -un (-32) := by rw [xl_00.1, hu, h32]; grind
  have x2 : un (-32) < xl 0 0 + wd 0 := by rw [xl_00.1, xl_00.2, hu, h32]; grind
  have a1 := hs.nmm x1
  have a2 := hs.nmm x2
  have a3 := hs.rts.2.2 (xl 0 0)
  have a4 := hs.rts.2.2 (xl 0 0 + wd 0)
  have a5 := (nm_N (lk F d 0) (cN F d M) (xl 0 0)).1
  have a6 := (nm_N (lk F d 0) (cN F d M) (xl 0 0 + wd 0)).1
  omega
end
/-- the reference's cell of root i -/
def rce (q : Rat → Rat) (N : Rat → Int) (i C : Int) (j : Nat) (x : Int) : Prop := 0 ≤ C ∧ C < 2 ^ j ∧ ((x = 1 ∧ q (xl C j) = 0 ∧ nm q N (xl C j) = i) ∨ (x = 0 ∧ N (xl C j) = i ∧ nm q N (xl C j + wd j) = i + 1))
