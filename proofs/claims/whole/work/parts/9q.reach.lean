/-! ALL ROOTS LIE WITHIN THE REACH -/
theorem fuj_al {t u v A : Rat} (h1 : -A < 2 * t * u ∧ 2 * t * u < A) (h2 : -A < 2 * t * v ∧ 2 * t * v < A) : -A < t * (u + v) ∧ t * (u + v) < A := by
  have e1 : 2 * t * u = 2 * (t * u) := by grind
  have e2 : 2 * t * v = 2 * (t * v) := by grind
  have e3 : t * (u + v) = t * u + t * v := by grind
  rw [e1] at h1
  rw [e2] at h2
  rw [e3]
  generalize t * u = a at *
  generalize t * v = b at *
  grind
theorem fuj_b {P : Nat → Int} {n re : Nat} (h : rok P n re) (hl : P n ≠ 0) {x : Rat} (hx : ((2 ^ re : Nat) : Rat) ≤ x) : sgr (ev P (n + 1) x) = (P n).sign := by
  have hR : (0 : Rat) < ((2 ^ re : Nat) : Rat) := Rat.natCast_pos.2 (Nat.pow_pos (by omega))
  have hx0 : 0 < x := by grind
  have hA : 0 < (((P n).natAbs : Nat) : Rat) * x ^ n := Rat.mul_pos (Rat.natCast_pos.2 (by omega)) (Rat.pow_pos hx0)
  have key : ∀ j, j ≤ n → -((((P n).natAbs : Nat) : Rat) * x ^ n) < ((2 ^ (n - j) : Nat) : Rat) * ev P j x ∧ ((2 ^ (n - j) : Nat) : Rat) * ev P j x < (((P n).natAbs : Nat) : Rat) * x ^ n := by
    intro j
    induction j with
    | zero => intro _; simp only [ev]; grind
    | succ j ih =>
      intro hj
      have a1 := ih (by omega)
      have a2 : ((2 ^ (n - j) : Nat) : Rat) = 2 * ((2 ^ (n - (j + 1)) : Nat) : Rat) := by
        rw [show n - j = (n - (j + 1)) + 1 by omega, Nat.pow_succ, Rat.natCast_mul, Rat.mul_comm]; rfl
      rw [a2] at a1
      have a3 : -((((P n).natAbs : Nat) : Rat) * x ^ n) < 2 * ((2 ^ (n - (j + 1)) : Nat) : Rat) * (P j * x ^ j) ∧ 2 * ((2 ^ (n - (j + 1)) : Nat) : Rat) * (P j * x ^ j) < (((P n).natAbs : Nat) : Rat) * x ^ n := by
        rw [← a2]
        have b1 := h (n - j) (by omega) (by omega)
        rw [show n - (n - j) = j by omega] at b1
        have b2 : (((P j).natAbs * 2 ^ (n - j) : Nat) : Rat) < (((P n).natAbs * (2 ^ re) ^ (n - j) : Nat) : Rat) := by
          rw [Rat.natCast_lt_natCast, ← Nat.pow_mul, Nat.mul_comm re]
          exact_mod_cast b1
        rw [Rat.natCast_mul, Rat.natCast_mul, Rat.natCast_pow (2 ^ re)] at b2
        have b3 : ((2 ^ re : Nat) : Rat) ^ (n - j) ≤ x ^ (n - j) := rpow_le (by grind) hx _
        have b4 := Rat.mul_le_mul_of_nonneg_left b3 (Rat.natCast_nonneg (a := (P n).natAbs))
        have b5 : x ^ n = x ^ (n - j) * x ^ j := by rw [← rpow_add]; congr 1; omega
        have b6 : 0 < x ^ j := Rat.pow_pos hx0
        have b7 := ab_int (P j)
        rw [b5]
        have hT : (0 : Rat) ≤ ((2 ^ (n - j) : Nat) : Rat) := Rat.natCast_nonneg
        generalize ((2 ^ (n - j) : Nat) : Rat) = T at *
        generalize (((P n).natAbs : Nat) : Rat) = a at *
        generalize (((P j).natAbs : Nat) : Rat) = b at *
        generalize ((P j : Int) : Rat) = p at *
        generalize ((2 ^ re : Nat) : Rat) ^ (n - j) = Rk at *
        generalize x ^ (n - j) = xk at *
        generalize x ^ j = xj at *
        have c1 := Rat.mul_lt_mul_of_pos_right (show b * T < a * xk by grind) b6
        unfold ab at b7
        have c2 := Rat.mul_le_mul_of_nonneg_right b7.2 (show 0 ≤ T * xj from Rat.mul_nonneg hT (by grind))
        have c3 := Rat.mul_le_mul_of_nonneg_right b7.1 (show 0 ≤ T * xj from Rat.mul_nonneg hT (by grind))
        clear ih a1 a2 b1 hA h hx hR b5
        constructor
        · grind
        · grind
      have := fuj_al a1 a3
      simp only [ev]
      exact this
  have k := key n (Nat.le_refl _)
  rw [Nat.sub_self] at k
  have e1 : ((2 ^ 0 : Nat) : Rat) = 1 := rfl
  rw [e1] at k
  simp only [ev]
  have hx1 := Rat.pow_pos (n := n) hx0
  rcases Int.lt_or_gt_of_ne hl with h1 | h1
  · rw [Int.sign_eq_neg_one_of_neg h1]
    have e2 : (((P n).natAbs : Nat) : Rat) = -(P n : Rat) := by
      have : ((P n).natAbs : Int) = -(P n) := by omega
      rw [← Rat.intCast_neg, ← this]; rfl
    rw [e2] at k
    unfold sgr
    rw [if_pos (by generalize x ^ n = y at *; generalize ev P n x = z at *; grind)]
  · rw [Int.sign_eq_one_of_pos h1]
    have e2 : (((P n).natAbs : Nat) : Rat) = (P n : Rat) := by
      have : ((P n).natAbs : Int) = P n := by omega
      rw [← this]; rfl
    rw [e2] at k
    have h2 : 0 < ev P n x + (P n : Rat) * x ^ n := by generalize x ^ n = y at *; generalize ev P n x = z at *; grind
    unfold sgr
    rw [if_neg (by grind), if_neg (by grind)]
theorem tP_abs (P : Nat → Int) (k : Nat) : (tP P k).natAbs = (P k).natAbs := by unfold tP; split <;> omega
theorem tP_ne {P : Nat → Int} {k : Nat} (h : P k ≠ 0) : tP P k ≠ 0 := by have := tP_abs P k; omega
theorem fuj_t {P : Nat → Int} {n re : Nat} (h : rok P n re) (hl : P n ≠ 0) {x : Rat} (hx : x ≤ -((2 ^ re : Nat) : Rat)) : sgr (ev P (n + 1) x) = (tP P n).sign := by
  have h1 := fuj_b (P := tP P) (n := n) (re := re) (fun k a b => by rw [tP_abs, tP_abs]; exact h k a b) (tP_ne hl) (x := -x) (by grind)
  rw [← ev_turn] at h1
  rw [← h1]
  congr 2
  grind
section
variable {q : Rat → Rat} {s N : Rat → Int} {c : Int}
/-- where a multiple of q is never small, no root lies -/
theorem noroot (hs : rsx q s N c) {p k : Rat → Rat} (hk : lp k) (e : ∀ x, p x = q x * k x) {R : Rat} (h : ∀ x, R ≤ x → 1 ≤ p x ∨ p x ≤ -1) : N R = c ∧ q R ≠ 0 := by
  have hq : ∀ x, R ≤ x → q x ≠ 0 := fun x hx h0 => by
    have := h x hx
    rw [e, h0] at this
    grind
  refine ⟨?_, hq R (by grind)⟩
  have hr := hs.rts
  rcases Int.lt_or_le (N R) c with h1 | h1
  · exfalso
    obtain ⟨H, H0, hH⟩ := hs.2.2
    obtain ⟨b, b0, hb⟩ := ab.self R
    have hy := (hH (H + b + 1)).2 (by grind)
    obtain ⟨B, -, x1, x2⟩ := ab_two R (H + b + 1)
    have hRy : R < H + b + 1 := by unfold ab at hb; grind
    have hrb : rb q N B (N R) R (H + b + 1) := ⟨x1, x2, hRy, Int.le_refl _, by rw [hy.1]; exact h1, fun h0 => absurd h0 hy.2⟩
    have hp := (hs.2.1 B).pla hs.1 hrb
    have hv := ((hs.2.1 B).vzq hs.1 hrb).mul hp hk
    obtain ⟨x', y', br, hx'⟩ := hv (1 / 2) (by grind)
    obtain ⟨u, v, bu, u1, u2, u3, u4⟩ := hp.2.1 x' y' R (H + b + 1) br hrb
    have huv := hp.1 u v bu
    have h2 : ab (q u * k u) (1 / 2) := hx' u u1 (by grind)
    rw [← e] at h2
    have h3 := h u u3
    unfold ab at h2
    grind
  · have := (hr.2.2 R).2
    omega
theorem norootL (hs : rsx q s N c) {p k : Rat → Rat} (hk : lp k) (e : ∀ x, p x = q x * k x) {R : Rat} (h : ∀ x, x ≤ R → 1 ≤ p x ∨ p x ≤ -1) : nm q N R = 0 := by
  have hq : ∀ x, x ≤ R → q x ≠ 0 := fun x hx h0 => by
    have := h x hx
    rw [e, h0] at this
    grind
  have hr := hs.rts
  have hn := nm_N q N R
  have hqR := hq R (by grind)
  have h0 : N R = nm q N R := by unfold nm; rw [if_neg hqR]
  rcases Int.lt_or_le 0 (N R) with h1 | h1
  · exfalso
    obtain ⟨H, H0, hH⟩ := hs.2.2
    obtain ⟨b, b0, hb⟩ := ab.self R
    have hy := (hH (-(H + b + 1))).1 (by grind)
    obtain ⟨B, -, x1, x2⟩ := ab_two R (-(H + b + 1))
    have hRy : -(H + b + 1) < R := by unfold ab at hb; grind
    have hrb : rb q N B 0 (-(H + b + 1)) R := ⟨x2, x1, hRy, by rw [hy.1]; exact Int.le_refl _, h1, fun h0 => absurd h0 hqR⟩
    have hp := (hs.2.1 B).pla hs.1 hrb
    have hv := ((hs.2.1 B).vzq hs.1 hrb).mul hp hk
    obtain ⟨x', y', br, hx'⟩ := hv (1 / 2) (by grind)
    obtain ⟨u, v, bu, u1, u2, u3, u4⟩ := hp.2.1 x' y' (-(H + b + 1)) R br hrb
    have huv := hp.1 u v bu
    have h2 : ab (q v * k v) (1 / 2) := hx' v (by grind) u2
    rw [← e] at h2
    have h3 := h v u4
    unfold ab at h2
    grind
  · have := (hr.2.2 R).1
    omega
end
theorem cau_b {P : Nat → Int} {n : Nat} (hP : ∀ k, (P k).natAbs ≤ 2147483648) (hl : P n ≠ 0) {x : Rat} (hx : 2147483649 ≤ x) : 1 ≤ ev P (n + 1) x ∨ ev P (n + 1) x ≤ -1 := by
  have h1 := ev_far (P := P) (H := 2147483648) (x := x) (fun k => (ab_int (P k)).le (nc_le (b := 2147483648) (hP k))) (by grind) n
  simp only [ev]
  have h2 : 0 < x ^ n := Rat.pow_pos (by grind)
  unfold ab at h1
  rcases Int.lt_or_gt_of_ne hl with h3 | h3
  · right
    have := Rat.mul_le_mul_of_nonneg_right (Rat.intCast_le_intCast.2 (show P n ≤ -1 by omega)) (show 0 ≤ x ^ n by grind)
    have e1 : ((-1 : Int) : Rat) = -1 := rfl
    rw [e1] at this
    grind
  · left
    have := Rat.mul_le_mul_of_nonneg_right (Rat.intCast_le_intCast.2 (show 1 ≤ P n by omega)) (show 0 ≤ x ^ n by grind)
    have e1 : ((1 : Int) : Rat) = 1 := rfl
    rw [e1] at this
    grind
theorem dy_R (re : Nat) : dy 1 (-(re : Int)) = ((2 ^ re : Nat) : Rat) := by
  have h := un_ng re
  unfold un at h
  rw [h]
  have : ((2 ^ re : Int)) = ((2 ^ re : Nat) : Int) := by push_cast; rfl
  rw [this]; rfl
theorem dy_nR (re : Nat) : dy (-1) (-(re : Int)) = -((2 ^ re : Nat) : Rat) := by
  have h := dy_R re
  rw [dy_u] at h ⊢
  have e1 : ((-1 : Int) : Rat) = -1 := rfl
  have e2 : ((1 : Int) : Rat) = 1 := rfl
  rw [e1]
  rw [e2] at h
  rw [← h]
  grind
theorem gch.rch {P : Nat → Int} {n M re : Nat} {F : Nat → Nat → Int} {d : Nat → Nat} (h : gch P n M F d) (hre : re = 32 ∨ rok (F 0) (d 0) re) : rch (lk F d 0) (cN F d M) (vlo F d M - vhi F d M) (re : Int) := by
  obtain ⟨s, hs⟩ := h.rs
  have hz := (h.zq 0 (by omega)).2
  show nm (lk F d 0) (cN F d M) (dy (-1) (-(re : Int))) = 0 ∧ cN F d M (dy 1 (-(re : Int))) = vlo F d M - vhi F d M ∧ lk F d 0 (dy 1 (-(re : Int))) ≠ 0
  rw [dy_R, dy_nR]
  have main : rok (F 0) (d 0) re → nm (lk F d 0) (cN F d M) (-((2 ^ re : Nat) : Rat)) = 0 ∧ cN F d M ((2 ^ re : Nat) : Rat) = vlo F d M - vhi F d M ∧ lk F d 0 ((2 ^ re : Nat) : Rat) ≠ 0 := by
    intro hk
    have f1 : ∀ x, ((2 ^ re : Nat) : Rat) ≤ x → sgr (lk F d 0 x) = (F 0 (d 0)).sign := fun x hx => fuj_b hk hz hx
    have f2 : ∀ x, x ≤ -((2 ^ re : Nat) : Rat) → sgr (lk F d 0 x) = (tP (F 0) (d 0)).sign := fun x hx => fuj_t hk hz hx
    have s1 : (F 0 (d 0)).sign ≠ 0 := fun h0 => hz (Int.sign_eq_zero_iff_zero.1 h0)
    have s2 : (tP (F 0) (d 0)).sign ≠ 0 := fun h0 => tP_ne hz (Int.sign_eq_zero_iff_zero.1 h0)
    obtain ⟨H, H0, hH⟩ := hs.2.2
    have hR : (0 : Rat) < ((2 ^ re : Nat) : Rat) := Rat.natCast_pos.2 (Nat.pow_pos (by omega))
    generalize ((2 ^ re : Nat) : Rat) = R at *
    obtain ⟨B, -, x1, x2⟩ := ab_two R (R + H)
    have n1 := (hs.2.1 B).none' hs.1 x1 x2 (by grind) (σ := (F 0 (d 0)).sign) (fun t a b => f1 t (by grind)) s1
    have n2 : ab (-R) B := x1.neg
    have n3 : ab (-(R + H)) B := x2.neg
    have n4 := (hs.2.1 B).none' hs.1 n3 n2 (by grind) (σ := (tP (F 0) (d 0)).sign) (fun t a b => f2 t (by grind)) s2
    rw [((hH (R + H)).2 (by grind)).1] at n1
    rw [((hH (-(R + H))).1 (by grind)).1] at n4
    have q1 : lk F d 0 R ≠ 0 := fun h0 => by have := f1 R (by grind); rw [sgr_z.2 h0] at this; exact s1 this.symm
    have q2 : lk F d 0 (-R) ≠ 0 := fun h0 => by have := f2 (-R) (by grind); rw [sgr_z.2 h0] at this; exact s2 this.symm
    refine ⟨?_, n1.symm, q1⟩
    unfold nm
    rw [if_neg q2]
    exact n4
  rcases hre with h32 | hk
  · have h0 := h
    obtain ⟨p1, p2, p3, p4, p5⟩ := h0
    rcases p5 with ⟨a1, a2, a3, a4⟩ | ⟨a1, a2, -, a4, a5, a6, a7⟩
    · refine main (fun k k1 k2 => ?_)
      omega
    · obtain ⟨-, -, -, D, -, -, he, -⟩ := a7
      subst h32
      have e32 : ((2 ^ 32 : Nat) : Rat) = 4294967296 := rfl
      rw [e32]
      have hD := ev_lp D (n - d 0 + 1)
      have e1 : ∀ x, ev P (n + 1) x = lk F d 0 x * ev D (n - d 0 + 1) x := fun x => by rw [he x, Rat.mul_comm]; rfl
      have r1 := noroot hs hD e1 (R := 4294967296) (fun x hx => cau_b p4 p2 (by grind))
      have r2 := norootL hs hD e1 (R := -4294967296) (fun x hx => by
        have h1 := cau_b (P := tP P) (n := n) (fun k => by rw [tP_abs]; exact p4 k) (tP_ne p2) (x := -x) (by grind)
        rw [← ev_turn] at h1
        have : - -x = x := by grind
        rw [this] at h1
        exact h1)
      exact ⟨r2, r1⟩
  · exact main hk
