/-! THE REFERENCE'S CELLS: floors over powers of 10 -/
theorem xh_eq {C : Int} {j : Nat} (hj : 44 ≤ j) : xl C j + wd j = ((lowv C j + 1 : Int) : Rat) / ((2 ^ (j - 44) : Int) : Rat) := by
  unfold xl wd
  rw [show 44 - j = 0 by omega, tp0, Rat.intCast_add, Rat.div_def, Rat.div_def, Rat.div_def]
  have : ((1 : Int) : Rat) = 1 := rfl
  rw [this]; grind
theorem gch.ten {P : Nat → Int} {n M : Nat} {F : Nat → Nat → Int} {d : Nat → Nat} (h : gch P n M F d) (h1 : 1 ≤ d 0) {i C x : Int} {j : Nat} (hj : 44 ≤ j) (hc : rce (lk F d 0) (cN F d M) i C j x) {T A v : Int} (hT0 : 0 < T) (hT : T ≤ 2 ^ (j - 44)) (hA : A = lowv C j * T / 2 ^ (j - 44)) (hv : v = if x = 0 then (if (lowv C j + 1) * T ≤ (A + 1) * 2 ^ (j - 44) then A else if sgr (lk F d 0 (((A + 1 : Int) : Rat) / (T : Rat))) = 0 ∨ sgr (lk F d 0 (((A + 1 : Int) : Rat) / (T : Rat))) = sdv (F 0) (d 0) (lowv C j) (j - 44) then A + 1 else A) else A) : flT (lk F d 0) (cN F d M) i v T := by
  obtain ⟨s, hs⟩ := h.rs
  have hr := hs.rts
  have hw := xh_eq (C := C) hj
  have es := h.sdx h1 C j
  have hD := ip_pos (B := 2) (by decide) (j - 44)
  have hxl : xl C j = ((lowv C j : Int) : Rat) / ((2 ^ (j - 44) : Int) : Rat) := rfl
  have a1 := Int.mul_ediv_self_le (x := lowv C j * T) (k := 2 ^ (j - 44)) (by omega)
  have a2 := Int.lt_mul_ediv_self_add (x := lowv C j * T) (k := 2 ^ (j - 44)) hD
  rw [← hA] at a1 a2
  rw [Int.mul_comm] at a1
  rw [Int.mul_comm (2 ^ (j - 44)) A] at a2
  have n1 := nm_N (lk F d 0) (cN F d M) (xl C j)
  obtain ⟨-, -, h3⟩ := hc
  have lo : nm (lk F d 0) (cN F d M) ((A : Rat) / (T : Rat)) ≤ i := by
    have h4 : (A : Rat) / (T : Rat) ≤ xl C j := by rw [hxl, rle_dd hT0 hD]; exact a1
    have := hr.nn h4
    rcases h3 with ⟨-, b1, b2⟩ | ⟨-, b1, b2⟩ <;> omega
  have y1 : xl C j < ((A + 1 : Int) : Rat) / (T : Rat) := by
    rw [hxl, rlt_dd hD hT0, Int.add_mul, Int.one_mul]; omega
  rcases h3 with ⟨b0, b1, b2⟩ | ⟨b0, b1, b2⟩
  · rw [if_neg (by omega)] at hv
    subst hv
    refine ⟨lo, ?_⟩
    have := hs.nmm y1
    have := n1.2.2.1 b1
    omega
  · rw [if_pos b0] at hv
    by_cases hcmp : (lowv C j + 1) * T ≤ (A + 1) * 2 ^ (j - 44)
    · rw [if_pos hcmp] at hv
      subst hv
      refine ⟨lo, ?_⟩
      have h4 : xl C j + wd j ≤ ((v + 1 : Int) : Rat) / (T : Rat) := by rw [hw, rle_dd hD hT0]; exact hcmp
      have := hr.nn h4
      omega
    · rw [if_neg hcmp] at hv
      have y2 : ((A + 1 : Int) : Rat) / (T : Rat) < xl C j + wd j := by rw [hw, rlt_dd hT0 hD]; omega
      have up2 : i < nm (lk F d 0) (cN F d M) (((A + 1 + 1 : Int) : Rat) / (T : Rat)) := by
        have h4 : xl C j + wd j ≤ ((A + 1 + 1 : Int) : Rat) / (T : Rat) := by
          rw [hw, rle_dd hD hT0, Int.add_mul, Int.add_mul, Int.add_mul, Int.one_mul, Int.one_mul]; omega
        have := hr.nn h4
        omega
      have m2 := hs.nmm y2
      have m1 := hs.nmm y1
      obtain ⟨e, he, hab⟩ := h.abv h1 (xl C j)
      rw [← es] at hab
      have hpy : (0 : Rat) < ((A + 1 : Int) : Rat) / (T : Rat) - xl C j := by grind
      obtain ⟨e', he', f1, f2⟩ := min_pos he hpy
      have hy := hab (xl C j + e' / 2) (by grind) (by grind)
      have m3 : xl C j + e' / 2 ≤ ((A + 1 : Int) : Rat) / (T : Rat) := by grind
      have n2 := nm_N (lk F d 0) (cN F d M) (((A + 1 : Int) : Rat) / (T : Rat))
      have hp := hs.par m3 hy.2.2
      have hnz := sgr_ne.2 hy.2.2
      have hy1 := hy.1
      have hy2 := hy.2.1
      by_cases hq : sgr (lk F d 0 (((A + 1 : Int) : Rat) / (T : Rat))) = 0 ∨ sgr (lk F d 0 (((A + 1 : Int) : Rat) / (T : Rat))) = sdv (F 0) (d 0) (lowv C j) (j - 44)
      · rw [if_pos hq] at hv
        subst hv
        refine ⟨?_, up2⟩
        by_cases h0 : lk F d 0 (((A + 1 : Int) : Rat) / (T : Rat)) = 0
        · have := n2.2.2.1 h0
          omega
        · have h5 := sgr_ne.2 h0
          have hp := hp h0
          rcases (show cN F d M (((A + 1 : Int) : Rat) / (T : Rat)) = i ∨ cN F d M (((A + 1 : Int) : Rat) / (T : Rat)) = i + 1 by omega) with h6 | h6
          · omega
          · have := hp.2 (by omega); omega
      · rw [if_neg hq] at hv
        subst hv
        refine ⟨lo, ?_⟩
        have h0 : lk F d 0 (((v + 1 : Int) : Rat) / (T : Rat)) ≠ 0 := fun h0 => hq (Or.inl (sgr_z.2 h0))
        have hp := hp h0
        have h7 : nm (lk F d 0) (cN F d M) (((v + 1 : Int) : Rat) / (T : Rat)) = cN F d M (((v + 1 : Int) : Rat) / (T : Rat)) := if_neg h0
        rcases (show cN F d M (((v + 1 : Int) : Rat) / (T : Rat)) = i ∨ cN F d M (((v + 1 : Int) : Rat) / (T : Rat)) = i + 1 by omega) with h6 | h6
        · have := hp.1 (by omega); omega
        · omega
