/-! A DIVISOR OF THE PART, AT A ROOT: isZeroAt -/
theorem lp.near {g : Rat → Rat} (h : lp g) (x : Rat) {ε : Rat} (hε : 0 < ε) : ∃ e : Rat, 0 < e ∧ ∀ y, ab (y - x) e → ab (g y - g x) ε := by
  obtain ⟨b, b0, hb⟩ := ab.self x
  obtain ⟨M, M0, -, hM⟩ := h (b + 1)
  obtain ⟨w, w0, w1, w2⟩ := min_pos (a := ε / M) (b := 1) (by rw [Rat.div_def]; exact Rat.mul_pos hε (Rat.inv_pos.2 M0)) (by grind)
  have hw : M * w ≤ ε := by
    have := Rat.mul_le_mul_of_nonneg_left w1 (show 0 ≤ M by grind)
    rw [Rat.mul_comm M (ε / M), Rat.div_mul_cancel (by grind)] at this
    exact this
  clear w1
  refine ⟨w, w0, fun y hy => ?_⟩
  have bx : ab x (b + 1) := hb.le (by grind)
  have bt : ab y (b + 1) := by unfold ab at *; grind
  rcases Rat.le_total (a := x) (b := y) with h1 | h1
  · exact (hM x y bx bt h1).le (Rat.le_trans (Rat.mul_le_mul_of_nonneg_left (show y - x ≤ w by unfold ab at hy; grind) (by grind)) hw)
  · have h3 := (hM y x bt bx h1).neg.le (Rat.le_trans (Rat.mul_le_mul_of_nonneg_left (show x - y ≤ w by unfold ab at hy; grind) (by grind)) hw)
    have e : -(g x - g y) = g y - g x := by grind
    rw [e] at h3
    exact h3
theorem lp.sgn {g : Rat → Rat} (h : lp g) {x : Rat} (hx : g x ≠ 0) : ∃ e : Rat, 0 < e ∧ ∀ y, ab (y - x) e → sgr (g y) = sgr (g x) := by
  rcases sgr_r (g x) with ⟨e1, e2⟩ | ⟨e1, e2⟩ | ⟨e1, e2⟩
  · obtain ⟨e, he, hr⟩ := h.near x (ε := -(g x) / 2) (by grind)
    refine ⟨e, he, fun y hy => ?_⟩
    have h9 := hr y hy
    unfold ab at h9
    rw [e1]
    rcases sgr_r (g y) with ⟨k1, k2⟩ | ⟨k1, k2⟩ | ⟨k1, k2⟩
    · exact k1
    · exfalso; grind
    · exfalso; grind
  · exact absurd e2 hx
  · obtain ⟨e, he, hr⟩ := h.near x (ε := g x / 2) (by grind)
    refine ⟨e, he, fun y hy => ?_⟩
    have h9 := hr y hy
    unfold ab at h9
    rw [e1]
    rcases sgr_r (g y) with ⟨k1, k2⟩ | ⟨k1, k2⟩ | ⟨k1, k2⟩
    · exfalso; grind
    · exfalso; grind
    · exact k1
/-- the signs just above and just below a point -/
theorem df.two {g g1 : Rat → Rat} (lg : lp g) (l1 : lp g1) (dg : df g g1) (x : Rat) (hz : g x = 0 → g1 x ≠ 0) : ∃ e : Rat, 0 < e ∧ (∀ y, x < y → y - x < e → sgr (g y) = (if sgr (g x) = 0 then sgr (g1 x) else sgr (g x))) ∧ (∀ y, y < x → x - y < e → sgr (g y) = (if sgr (g x) = 0 then -sgr (g1 x) else sgr (g x))) := by
  by_cases hx : g x = 0
  · rw [if_pos (sgr_z.2 hx), if_pos (sgr_z.2 hx)]
    have h1 := hz hx
    obtain ⟨ε, ε0, hε⟩ : ∃ ε : Rat, 0 < ε ∧ (2 * ε ≤ g1 x ∨ g1 x ≤ -(2 * ε)) := by
      rcases sgr_r (g1 x) with g | g | g
      · exact ⟨-g1 x / 2, by grind, by grind⟩
      · exact absurd g.2 h1
      · exact ⟨g1 x / 2, by grind, by grind⟩
    obtain ⟨b, b0, hb⟩ := ab.self x
    obtain ⟨e1, h10, h11⟩ := l1.near x ε0
    obtain ⟨e2, h20, h21⟩ := dg.rise ε0 (b + 1)
    obtain ⟨e3, h30, h31, h32⟩ := min_pos h10 h20
    obtain ⟨e4, h40, h41, h42⟩ := min_pos h30 (show (0 : Rat) < 1 by grind)
    clear lg l1 dg hz
    refine ⟨e4, h40, fun y y1 y2 => ?_, fun y y1 y2 => ?_⟩
    · have a2 := h21 x y (by clear h11 h21; unfold ab at *; grind) (by clear h11 h21; unfold ab at *; grind) y1 (by grind)
      rw [hx] at a2
      clear h11 h21
      rcases hε with h9 | h9
      · have := a2.1 (by grind)
        rcases sgr_r (g y) with g | g | g <;> rcases sgr_r (g1 x) with k | k | k <;> grind
      · have := a2.2 (by grind)
        rcases sgr_r (g y) with g | g | g <;> rcases sgr_r (g1 x) with k | k | k <;> grind
    · have a1 := h11 y (by clear h11 h21; unfold ab; grind)
      have a2 := h21 y x (by clear h11 h21; unfold ab at *; grind) (by clear h11 h21; unfold ab at *; grind) y1 (by grind)
      rw [hx] at a2
      unfold ab at a1
      clear h11 h21
      rcases hε with h9 | h9
      · have := a2.1 (by grind)
        rcases sgr_r (g y) with g | g | g <;> rcases sgr_r (g1 x) with k | k | k <;> grind
      · have := a2.2 (by grind)
        rcases sgr_r (g y) with g | g | g <;> rcases sgr_r (g1 x) with k | k | k <;> grind
  · rw [if_neg (sgr_ne.2 hx), if_neg (sgr_ne.2 hx)]
    obtain ⟨e, he, hr⟩ := lg.sgn hx
    exact ⟨e, he, fun y y1 y2 => hr y (by unfold ab; grind), fun y y1 y2 => hr y (by unfold ab; grind)⟩
/-- a factor of a squarefree q is squarefree -/
theorem fac_sqf {q q1 g g1 k u w : Rat → Rat} (pk : pl k) (pg : pl g) (dq : df q q1) (dg : df g g1) (e : ∀ x, q x = g x * k x) (bq : ∀ x, u x * q x + w x * q1 x = 1) : ∀ x, g x = 0 → g1 x ≠ 0 := by
  obtain ⟨k1, hk1, pk1⟩ := pk.df
  have h1 := (dg.mul hk1 pg.lp pk.lp).congr (g := q) (g1 := fun x => g1 x * k x + g x * k1 x) e (fun x => rfl)
  intro x h0 h2
  have h3 := bq x
  rw [dq.uniq h1 x, e x, h0, h2] at h3
  grind
theorem hv_dsg (G : Nat → Int) {e : Nat} (he : 1 ≤ e) (X : Int) (ex : Nat) : (hv (fun k => G (k + 1) * ((k : Int) + 1)) (e - 1) X ex e).sign = sgr (ev (dP G) e ((X : Rat) / ((2 ^ ex : Int) : Rat))) := by
  obtain ⟨m, rfl⟩ : ∃ m, e = m + 1 := ⟨e - 1, by omega⟩
  have h2 := hv_sg (fun k => G (k + 1) * ((k : Int) + 1)) m X ex
  rw [Nat.add_sub_cancel, h2]
  rw [ev_congr (P := fun k => G (k + 1) * ((k : Int) + 1)) (Q := dP G) (fun k _ => by unfold dP; rw [Int.mul_comm])]
theorem xl_ab {C : Int} {j : Nat} (hj : 1 ≤ j) (c1 : 0 ≤ C) (c2 : C ≤ 2 ^ j) : ab (xl C j) 8796093022208 := by
  have e1 := un_k (-43) (j - 1)
  rw [show (-43 : Int) + ((j - 1 : Nat) : Int) = (j : Int) - 44 by omega] at e1
  have e2 : un (-43) = 8796093022208 := un_ng 43
  rw [e2] at e1
  have hu := un_pos ((j : Int) - 44)
  have p : (2 : Int) ^ j = 2 ^ (j - 1) * 2 := by
    obtain ⟨i, rfl⟩ : ∃ i, j = i + 1 := ⟨j - 1, by omega⟩
    rw [Nat.add_sub_cancel]
    exact Int.pow_succ _ _
  rw [xl_dy C hj, dy_u]
  have h1 : -2 ^ (j - 1) ≤ C - 2 ^ (j - 1) ∧ C - 2 ^ (j - 1) ≤ 2 ^ (j - 1) := by omega
  have a1 := Rat.mul_le_mul_of_nonneg_right (Rat.intCast_le_intCast.2 h1.1) (show 0 ≤ un ((j : Int) - 44) by grind)
  have a2 := Rat.mul_le_mul_of_nonneg_right (Rat.intCast_le_intCast.2 h1.2) (show 0 ≤ un ((j : Int) - 44) by grind)
  rw [Rat.intCast_neg] at a1
  unfold ab
  grind
section
variable {P : Nat → Int} {n M : Nat} {F : Nat → Nat → Int} {d : Nat → Nat}
/-- a root lies between -2 and 2 to the 32 -/
theorem gch.rt_bd (h : gch P n M F d) {x : Rat} (hx : lk F d 0 x = 0) : ab x 4294967297 := by
  obtain ⟨s, hs⟩ := h.rs
  obtain ⟨r1, r2, r3⟩ := h.rch (re := 32) (Or.inl rfl)
  rw [dy_nR] at r1
  rw [dy_R] at r2 r3
  have e32 : ((2 ^ 32 : Nat) : Rat) = 4294967296 := rfl
  rw [e32] at r1 r2
  have t := hs.rts
  have k3 := (nm_N (lk F d 0) (cN F d M) x).2.2.1 hx
  have t3 := t.2.2 x
  constructor
  · refine Rat.not_lt.1 (fun hc => ?_)
    have := hs.nmm (x := x) (y := -4294967296) (by grind)
    omega
  · refine Rat.not_lt.1 (fun hc => ?_)
    have := hs.nmm (x := 4294967296) (y := x) (by grind)
    omega
theorem wd_44 {j : Nat} (hj : 44 ≤ j) (C : Int) : ((lowv C j + 1 * 1 : Int) : Rat) / ((2 ^ (j - 44) : Int) : Rat) = xl C j + wd j := by
  unfold xl wd
  rw [show 44 - j = 0 by omega, Int.pow_zero, Rat.div_def, Rat.div_def, Rat.div_def, Rat.intCast_add]
  have : ((1 * 1 : Int) : Rat) = 1 := rfl
  have : ((1 : Int) : Rat) = 1 := rfl
  grind
/-- a cell that is not exact is a bracket of its root -/
theorem rce.brk (h : gch P n M F d) {i C : Int} {j : Nat} (hj : 1 ≤ j) (hc : rce (lk F d 0) (cN F d M) i C j 0) : rb (lk F d 0) (cN F d M) B0 i (xl C j) (xl C j + wd j) := by
  obtain ⟨c1, c2, c3⟩ := hc
  have w0 := wd_pos j
  have a1 := xl_ab hj c1 (Int.le_of_lt c2)
  have a2 := xl_ab (C := C + 1) hj (by omega) (by omega)
  rw [xl_s C hj] at a2
  rcases c3 with ⟨x1, -⟩ | ⟨-, q1, q2⟩
  · exact absurd x1 (by decide)
  have k3 := nm_N (lk F d 0) (cN F d M) (xl C j + wd j)
  refine ⟨by unfold ab B0 at *; grind, by unfold ab B0 at *; grind, by grind, by omega, by omega, fun h0 => ?_⟩
  have := k3.2.2.1 h0
  omega
/-- what isZeroAt says of a divisor of the part -/
theorem iz_ok (h : gch P n M F d) (h1 : 1 ≤ d 0) {i C x : Int} {j : Nat} (hi : 0 ≤ i ∧ i < vlo F d M - vhi F d M) (hj : 44 ≤ j) (hc : rce (lk F d 0) (cN F d M) i C j x) {G : Nat → Int} {e : Nat} (he : 1 ≤ e) {k : Rat → Rat} (pk : pl k) (hf : ∀ x, lk F d 0 x = ev G (e + 1) x * k x) : (izv G e (lowv C j) (j - 44) x = 0 ∧ ¬ vz (rb (lk F d 0) (cN F d M) B0 i) (ev G (e + 1))) ∨ (izv G e (lowv C j) (j - 44) x = 1 ∧ vz (rb (lk F d 0) (cN F d M) B0 i) (ev G (e + 1))) := by
  obtain ⟨s, hs⟩ := h.rs
  obtain ⟨dq, u, w, pu, pw, bq⟩ := h.bzq h1
  have hp := h.pla (re := 32) (Or.inl rfl) (by omega) hi
  have pg : pl (ev G (e + 1)) := pl.ev _ _
  have dg : df (ev G (e + 1)) (ev (dP G) e) := ev_df G (e + 1)
  have hsq := fac_sqf pk pg dq dg hf bq
  obtain ⟨U, W, pU, pW, bz⟩ := fac_bz pg pk pu pw dq hf bq
  have s0 : (hv G e (lowv C j) (j - 44) (e + 1)).sign = sgr (ev G (e + 1) (xl C j)) := hv_sg _ _ _ _
  have hc0 := hc
  obtain ⟨c1, c2, c3⟩ := hc
  rcases c3 with ⟨x1, q1, q2⟩ | ⟨x0, q1, q2⟩
  · subst x1
    have h2 := pt_sga hs pg.lp q2 q1 (h.rt_bd q1)
    have e1 : izv G e (lowv C j) (j - 44) 1 = if sgr (ev G (e + 1) (xl C j)) = 0 then 1 else 0 := by
      unfold izv
      rw [if_neg (by decide), s0]
    rw [e1]
    rcases h2 with ⟨a1, a2⟩ | ⟨a1, a2⟩
    · right
      rw [if_pos a1]
      exact ⟨rfl, a2⟩
    · left
      rw [if_neg (by omega)]
      refine ⟨rfl, fun hv => hv.excl hp a1 a2⟩
  · subst x0
    have w0 := wd_pos j
    obtain ⟨e1, e10, e11⟩ := hs.rlim (xl C j)
    obtain ⟨e2, e20, e21⟩ := hs.lim (xl C j + wd j)
    obtain ⟨e3, e30, e31, -⟩ := df.two pg.lp (pl.ev (dP G) e).lp dg (xl C j) (hsq _)
    obtain ⟨e4, e40, -, e41⟩ := df.two pg.lp (pl.ev (dP G) e).lp dg (xl C j + wd j) (hsq _)
    obtain ⟨m1, m10, m11, m12⟩ := min_pos e10 e20
    obtain ⟨m2, m20, m21, m22⟩ := min_pos e30 e40
    obtain ⟨m3, m30, m31, m32⟩ := min_pos m10 m20
    obtain ⟨m4, m40, m41, m42⟩ := min_pos m30 w0
    have A1 := e11 (xl C j + m4 / 4) (by grind) (by grind)
    have A2 := e21 (xl C j + wd j - m4 / 4) (by grind) (by grind)
    have A3 := e31 (xl C j + m4 / 4) (by grind) (by grind)
    have A4 := e41 (xl C j + wd j - m4 / 4) (by grind) (by grind)
    have ord : xl C j + m4 / 4 < xl C j + wd j - m4 / 4 := by grind
    have b1 := xl_ab (show 1 ≤ j by omega) c1 (Int.le_of_lt c2)
    have b2 := xl_ab (C := C + 1) (show 1 ≤ j by omega) (by omega) (by omega)
    rw [xl_s C (by omega)] at b2
    have B1 : ab (xl C j + m4 / 4) B0 := by unfold ab B0 at *; grind
    have B2 : ab (xl C j + wd j - m4 / 4) B0 := by unfold ab B0 at *; grind
    rw [q1] at A1
    rw [q2] at A2
    generalize ha : xl C j + m4 / 4 = a at *
    generalize hb : xl C j + wd j - m4 / 4 = b at *
    clear e11 e21 e31 e41
    have ez : izv G e (lowv C j) (j - 44) 0 = if sgr (ev G (e + 1) b) = sgr (ev G (e + 1) a) then 0 else 1 := by
      have t1 : (hv G e (lowv C j + 1 * 1) (j - 44) (e + 1)).sign = sgr (ev G (e + 1) (xl C j + wd j)) := by rw [← wd_44 hj]; exact hv_sg _ _ _ _
      have t2 : (hv (fun k => G (k + 1) * ((k : Int) + 1)) (e - 1) (lowv C j + 1 * 1) (j - 44) e).sign = sgr (ev (dP G) e (xl C j + wd j)) := by rw [← wd_44 hj]; exact hv_dsg G he _ _
      have t3 : sdv G e (lowv C j) (j - 44) = sgr (ev G (e + 1) a) := by
        rw [A3]
        unfold sdv
        rw [s0, hv_dsg G he]
        rfl
      unfold izv
      rw [if_pos rfl, t1, t2, t3, A4]
      by_cases hz : sgr (ev G (e + 1) (xl C j + wd j)) = 0
      · rw [if_pos hz, if_pos hz]
      · rw [if_neg hz, if_neg hz]
    rw [ez]
    have hr := hs.2.1 B0
    rcases (hr.fac1 hs.1 pg.lp pk.lp pU.lp pW.lp hf bz a b B1 B2 ord A1.2 A2.2).2 (by omega) with ⟨f1, f2⟩ | ⟨f1, f2⟩
    · right
      have o := sgr_opp f1
      have nz : sgr (ev G (e + 1) b) ≠ 0 := fun h0 => by
        have := sgr_z.1 h0
        rw [this] at f1
        grind
      rw [if_neg (by omega)]
      exact ⟨rfl, hr.facz hs.1 pg.lp pk.lp pU.lp pW.lp hf bz B1 B2 A1.1 A2.1 A1.2 A2.2 f1⟩
    · left
      have o := f1.sg
      rw [if_pos o.1.symm]
      refine ⟨rfl, ?_⟩
      have v := hr.facz hs.1 pk.lp pg.lp pW.lp pU.lp (fun x => by rw [hf x, Rat.mul_comm]) (fun x => by have := bz x; grind) B1 B2 A1.1 A2.1 A1.2 A2.2 f2
      exact (bz_nz hp pW.lp pU.lp pg.lp (fun x => by have := bz x; grind) v).not hp
end
