/-! POINTS over powers of 2, and what the class counts there -/
noncomputable def dy (z lev : Int) : Rat := ((ptX z lev : Int) : Rat) / ((2 ^ ptE lev : Int) : Rat)
noncomputable def un (lev : Int) : Rat := dy 1 lev
theorem tpp (k : Nat) : (0 : Rat) < ((2 ^ k : Int) : Rat) := Rat.intCast_pos.2 (ip_pos (by decide) k)
theorem tps (k : Nat) : ((2 ^ (k + 1) : Int) : Rat) = ((2 ^ k : Int) : Rat) * 2 := by
  rw [Int.pow_succ, Rat.intCast_mul]; rfl
theorem tp0 : ((2 ^ 0 : Int) : Rat) = 1 := rfl
theorem ptX_m (z lev : Int) : ptX z lev = z * ptX 1 lev := by
  unfold ptX
  split
  · rw [Int.mul_one]
  · rw [Int.one_mul]
theorem dy_u (z lev : Int) : dy z lev = z * un lev := by
  unfold un dy
  rw [ptX_m z lev, Rat.intCast_mul, Rat.div_def, Rat.div_def, Rat.mul_assoc]
theorem div_1 (x : Rat) : x / 1 = x := by grind
theorem un_nn (k : Nat) : un (k : Int) = 1 / ((2 ^ k : Int) : Rat) := by
  unfold un dy ptX ptE
  rw [if_pos (by omega), show (max 0 (k : Int)).toNat = k by omega]; rfl
theorem un_ng (k : Nat) : un (-(k : Int)) = ((2 ^ k : Int) : Rat) := by
  unfold un dy ptX ptE
  rw [show (max 0 (-(k : Int))).toNat = 0 by omega, tp0, div_1]
  rcases Nat.eq_zero_or_pos k with h | h
  · subst h; rw [if_pos (by omega)]; rfl
  · rw [if_neg (by omega), show (-(-(k : Int))).toNat = k by omega, Int.one_mul]
theorem un_h (lev : Int) : un lev = 2 * un (lev + 1) := by
  rcases Int.lt_or_le lev 0 with h | h
  · obtain ⟨k, rfl⟩ : ∃ k : Nat, lev = -((k + 1 : Nat) : Int) := ⟨(-lev - 1).toNat, by omega⟩
    rw [show -((k + 1 : Nat) : Int) + 1 = -(k : Int) by omega, un_ng, un_ng, tps, Rat.mul_comm]
  · obtain ⟨k, rfl⟩ : ∃ k : Nat, lev = (k : Int) := ⟨lev.toNat, by omega⟩
    rw [show (k : Int) + 1 = ((k + 1 : Nat) : Int) by omega, un_nn, un_nn, tps]
    have := tpp k
    generalize ((2 ^ k : Int) : Rat) = A at *
    grind
theorem un_pos (lev : Int) : 0 < un lev := by
  unfold un dy
  rw [Rat.div_def]
  refine Rat.mul_pos (Rat.intCast_pos.2 ?_) (Rat.inv_pos.2 (tpp _))
  unfold ptX
  split
  · decide
  · rw [Int.one_mul]; exact ip_pos (by decide) _
theorem un_k (lev : Int) (k : Nat) : un lev = ((2 ^ k : Int) : Rat) * un (lev + k) := by
  induction k with
  | zero => rw [show lev + ((0 : Nat) : Int) = lev by omega, tp0]; grind
  | succ k ih =>
    rw [ih, un_h (lev + k), tps, show lev + ((k + 1 : Nat) : Int) = lev + k + 1 by omega]
    grind
theorem dy_k (z lev : Int) (k : Nat) : dy (z * 2 ^ k) (lev + k) = dy z lev := by
  rw [dy_u, dy_u, un_k lev k, Rat.intCast_mul]
  grind
theorem dy_2 (z lev : Int) : dy (z * 2 ^ 1) (lev + 1) = dy z lev := dy_k z lev 1
theorem dy_lt {z w lev : Int} : dy z lev < dy w lev ↔ z < w := by
  rw [dy_u, dy_u, Rat.mul_lt_mul_right (un_pos lev), Rat.intCast_lt_intCast]
theorem dy_le {z w lev : Int} : dy z lev ≤ dy w lev ↔ z ≤ w := by
  rw [← Rat.not_lt, dy_lt, Int.not_lt]
theorem dy_s (z lev : Int) : dy (z + 1) lev = dy z lev + un lev := by
  rw [dy_u, dy_u, Rat.intCast_add]
  have : ((1 : Int) : Rat) = 1 := rfl
  grind
-- the class's counts
theorem lks_sg (F : Nat → Nat → Int) (d : Nat → Nat) (z lev : Int) (k : Nat) : lks F d z lev k = sgr (lk F d k (dy z lev)) := hv_sg _ _ _ _
/-- how many roots, not above x -/
noncomputable def cN (F : Nat → Nat → Int) (d : Nat → Nat) (M : Nat) (x : Rat) : Int := vlo F d M - vx (lk F d) M x
theorem upt_N (F : Nat → Nat → Int) (d : Nat → Nat) (M : Nat) (z lev : Int) : upt F d (M + 1) (vlo F d M) z lev = cN F d M (dy z lev) := by
  unfold upt cN vx
  rw [vr_congr (fun k _ => lks_sg F d z lev k)]
theorem sgr_z {x : Rat} : sgr x = 0 ↔ x = 0 := ⟨fun h => Decidable.not_not.1 (fun c => (sgr_ne.2 c) h), fun h => Decidable.not_not.1 (fun c => (sgr_ne.1 c) h)⟩
theorem blw_nm (F : Nat → Nat → Int) (d : Nat → Nat) (M : Nat) (z lev : Int) : blw F d (M + 1) (vlo F d M) z lev = nm (lk F d 0) (cN F d M) (dy z lev) := by
  unfold blw nm
  rw [upt_N, lks_sg]
  by_cases h : lk F d 0 (dy z lev) = 0
  · rw [if_pos h, if_pos (sgr_z.2 h)]
  · rw [if_neg h, if_neg (sgr_ne.2 h)]
/-- the counts as they lie in order -/
def rts (q : Rat → Rat) (N : Rat → Int) (c : Int) : Prop := (∀ x y, x ≤ y → N x ≤ N y) ∧ (∀ x y, x < y → N x ≤ nm q N y) ∧ ∀ x, 0 ≤ nm q N x ∧ N x ≤ c
theorem ab_two (x y : Rat) : ∃ B, 0 < B ∧ ab x B ∧ ab y B := by
  obtain ⟨a, a0, ha⟩ := ab.self x
  obtain ⟨b, b0, hb⟩ := ab.self y
  exact ⟨a + b, by grind, ha.le (by grind), hb.le (by grind)⟩
theorem nm_N (q : Rat → Rat) (N : Rat → Int) (x : Rat) : nm q N x ≤ N x ∧ N x ≤ nm q N x + 1 ∧ (q x = 0 ↔ N x = nm q N x + 1) := by
  unfold nm
  split
  · rename_i h; exact ⟨by omega, by omega, ⟨fun _ => by omega, fun _ => h⟩⟩
  · rename_i h; exact ⟨by omega, by omega, ⟨fun h' => absurd h' h, fun h' => by omega⟩⟩
section
variable {q : Rat → Rat} {s N : Rat → Int} {c : Int}
theorem rsx.mono (h : rsx q s N c) {x y : Rat} (hxy : x ≤ y) : N x ≤ N y := by
  obtain ⟨B, -, hx, hy⟩ := ab_two x y
  exact (h.2.1 B).mono hx hy hxy
theorem rsx.nmm (h : rsx q s N c) {x y : Rat} (hxy : x < y) : N x ≤ nm q N y := by
  obtain ⟨B, -, hx, hy⟩ := ab_two x y
  have h1 := (h.2.1 B).mono hx hy (by grind)
  unfold nm
  split
  · rename_i h0
    have := (h.2.1 B).zero hx hy hxy h0
    omega
  · exact h1
theorem rsx.rts (h : rsx q s N c) : rts q N c := by
  refine ⟨fun x y hxy => h.mono hxy, fun x y hxy => h.nmm hxy, fun x => ?_⟩
  obtain ⟨H, H0, hH⟩ := h.2.2
  obtain ⟨b, b0, hb⟩ := ab.self x
  unfold ab at hb
  constructor
  · have h1 := h.nmm (x := -(H + b) - 1) (y := x) (by grind)
    rw [((hH (-(H + b) - 1)).1 (by grind)).1] at h1
    exact h1
  · have h1 := h.mono (x := x) (y := H + b) (by grind)
    rw [((hH (H + b)).2 (by grind)).1] at h1
    exact h1
theorem rts.nn (h : rts q N c) {x y : Rat} (hxy : x ≤ y) : nm q N x ≤ nm q N y := by
  by_cases e : x = y
  · rw [e]; exact Int.le_refl _
  · have := h.2.1 x y (Rat.lt_of_le_of_ne hxy e)
    have := (nm_N q N x).1
    omega
theorem rsx.par (h : rsx q s N c) {x y : Rat} (hxy : x ≤ y) (hx : q x ≠ 0) (hy : q y ≠ 0) : (N y = N x → sgr (q y) = sgr (q x)) ∧ (N y = N x + 1 → sgr (q y) = - sgr (q x)) := by
  obtain ⟨B, -, ax, ay⟩ := ab_two x y
  have h1 := (h.2.1 B).par ax ay hxy
  rw [(h.2.1 B).sq x ax hx, (h.2.1 B).sq y ay hy] at h1
  exact ⟨fun e => h1.1 (by omega), fun e => h1.2 (by omega)⟩
end
/-- the class's cell of root i: z over 2 to the lev, up to the next -/
def ccl (q : Rat → Rat) (N : Rat → Int) (i z lev ls x : Int) : Prop := nm q N (dy z lev) = i ∧ N (dy (z + 1) lev) = i + 1 ∧ q (dy (z + 1) lev) ≠ 0 ∧ ((q (dy z lev) = 0 ∧ x = 1) ∨ (q (dy z lev) ≠ 0 ∧ x = 0 ∧ ls = sgr (q (dy z lev)))) ∧ -1 ≤ ls ∧ ls ≤ 1
/-- all roots lie between -2 and 2 to the re -/
def rch (q : Rat → Rat) (N : Rat → Int) (c re : Int) : Prop := nm q N (dy (-1) (-re)) = 0 ∧ N (dy 1 (-re)) = c ∧ q (dy 1 (-re)) ≠ 0
theorem iso_inv {F : Nat → Nat → Int} {d : Nat → Nat} {M : Nat} {c re i : Int} (h : rts (lk F d 0) (cN F d M) c) (hr : rch (lk F d 0) (cN F d M) c re) (hi : 0 ≤ i ∧ i < c) : ∀ t : Nat, (iso F d (M + 1) (vlo F d M) c re i t).2.1 = nm (lk F d 0) (cN F d M) (dy (iso F d (M + 1) (vlo F d M) c re i t).1 (-re + t)) ∧ (iso F d (M + 1) (vlo F d M) c re i t).2.2 = cN F d M (dy ((iso F d (M + 1) (vlo F d M) c re i t).1 + 1) (-re + t)) ∧ nm (lk F d 0) (cN F d M) (dy (iso F d (M + 1) (vlo F d M) c re i t).1 (-re + t)) ≤ i ∧ i < nm (lk F d 0) (cN F d M) (dy ((iso F d (M + 1) (vlo F d M) c re i t).1 + 1) (-re + t)) ∧ -2 ^ t ≤ (iso F d (M + 1) (vlo F d M) c re i t).1 ∧ (iso F d (M + 1) (vlo F d M) c re i t).1 < 2 ^ t := by
  intro t
  have h00 : dy 0 0 = dy 0 (-re) := by rw [dy_u, dy_u]; have : ((0 : Int) : Rat) = 0 := rfl; grind
  induction t with
  | zero =>
    rw [show -re + ((0 : Nat) : Int) = -re by omega]
    by_cases hb : i < blw F d (M + 1) (vlo F d M) 0 0
    · have e : iso F d (M + 1) (vlo F d M) c re i 0 = (-1, 0, upt F d (M + 1) (vlo F d M) 0 0) := if_pos hb
      rw [e]
      rw [blw_nm, h00] at hb
      refine ⟨hr.1.symm, ?_, by show nm _ _ _ ≤ i; rw [hr.1]; exact hi.1, hb, by show -2 ^ 0 ≤ (-1 : Int); decide, by show (-1 : Int) < 2 ^ 0; decide⟩
      show upt F d (M + 1) (vlo F d M) 0 0 = _
      rw [upt_N, h00]; rfl
    · have e : iso F d (M + 1) (vlo F d M) c re i 0 = (0, blw F d (M + 1) (vlo F d M) 0 0, c) := if_neg hb
      rw [e]
      rw [blw_nm, h00] at hb
      have h2 := (nm_N (lk F d 0) (cN F d M) (dy 1 (-re)))
      have h3 : nm (lk F d 0) (cN F d M) (dy 1 (-re)) = c := by
        have := hr.2.1
        have h4 : ¬ (cN F d M (dy 1 (-re)) = nm (lk F d 0) (cN F d M) (dy 1 (-re)) + 1) := fun q => hr.2.2 (h2.2.2.2 q)
        omega
      refine ⟨?_, hr.2.1.symm, by show nm _ _ (dy 0 (-re)) ≤ i; omega, by show i < nm _ _ (dy 1 (-re)); omega, by show -2 ^ 0 ≤ (0 : Int); decide, by show (0 : Int) < 2 ^ 0; decide⟩
      show blw F d (M + 1) (vlo F d M) 0 0 = _
      rw [blw_nm, h00]
  | succ t ih =>
    obtain ⟨a1, a2, a3, a4, a5, a6⟩ := ih
    generalize hI : iso F d (M + 1) (vlo F d M) c re i t = I at *
    obtain ⟨z, lo, hi2⟩ := I
    simp only at a1 a2 a3 a4 a5 a6
    have el : -re + ((t + 1 : Nat) : Int) = -re + t + 1 := by omega
    have p1 : (2 : Int) ^ (t + 1) = 2 ^ t * 2 := Int.pow_succ _ _
    rw [el]
    have e0 : dy (z * 2 ^ 1) (-re + t + 1) = dy z (-re + t) := dy_2 _ _
    have e1 : dy (z * 2 ^ 1 + 1 + 1) (-re + t + 1) = dy (z + 1) (-re + t) := by rw [show z * 2 ^ 1 + 1 + 1 = (z + 1) * 2 ^ 1 by omega]; exact dy_2 _ _
    by_cases hb : i < blw F d (M + 1) (vlo F d M) (z * 2 ^ 1 + 1) (-re + t + 1)
    · have e : iso F d (M + 1) (vlo F d M) c re i (t + 1) = (z * 2 ^ 1 + 0, lo, upt F d (M + 1) (vlo F d M) (z * 2 ^ 1 + 1) (-re + t + 1)) := by
        show (if i < blw F d (M + 1) (vlo F d M) ((iso F d (M + 1) (vlo F d M) c re i t).1 * 2 ^ 1 + 1) (-re + t + 1) then _ else _) = _
        rw [hI, if_pos hb]
      rw [e]
      rw [blw_nm] at hb
      simp only
      rw [Int.add_zero, e0]
      exact ⟨a1, upt_N _ _ _ _ _, a3, hb, by omega, by omega⟩
    · have e : iso F d (M + 1) (vlo F d M) c re i (t + 1) = (z * 2 ^ 1 + 1, blw F d (M + 1) (vlo F d M) (z * 2 ^ 1 + 1) (-re + t + 1), hi2) := by
        show (if i < blw F d (M + 1) (vlo F d M) ((iso F d (M + 1) (vlo F d M) c re i t).1 * 2 ^ 1 + 1) (-re + t + 1) then _ else _) = _
        rw [hI, if_neg hb]
      rw [e]
      simp only
      have hb2 := blw_nm F d M (z * 2 ^ 1 + 1) (-re + t + 1)
      rw [e1]
      exact ⟨hb2, a2, by omega, a4, by omega, by omega⟩
theorem iso_end {F : Nat → Nat → Int} {d : Nat → Nat} {M : Nat} {c re i : Int} (h : rts (lk F d 0) (cN F d M) c) (hr : rch (lk F d 0) (cN F d M) c re) (hi : 0 ≤ i ∧ i < c) {t : Nat} (he : (iso F d (M + 1) (vlo F d M) c re i t).2.2 - (iso F d (M + 1) (vlo F d M) c re i t).2.1 ≤ 1) : ccl (lk F d 0) (cN F d M) i (iso F d (M + 1) (vlo F d M) c re i t).1 (-re + t) (lks F d (iso F d (M + 1) (vlo F d M) c re i t).1 (-re + t) 0) (if lks F d (iso F d (M + 1) (vlo F d M) c re i t).1 (-re + t) 0 = 0 then 1 else 0) := by
  obtain ⟨a1, a2, a3, a4, -, -⟩ := iso_inv h hr hi t
  generalize iso F d (M + 1) (vlo F d M) c re i t = I at *
  obtain ⟨z, lo, hi2⟩ := I
  simp only at a1 a2 a3 a4 he ⊢
  have h1 := nm_N (lk F d 0) (cN F d M) (dy (z + 1) (-re + t))
  have h2 := nm_N (lk F d 0) (cN F d M) (dy z (-re + t))
  have h5 := sgr_b (lk F d 0 (dy z (-re + t)))
  rw [lks_sg]
  refine ⟨by omega, by omega, fun e => by have := h1.2.2.1 e; omega, ?_, h5.1, h5.2⟩
  by_cases e : lk F d 0 (dy z (-re + t)) = 0
  · exact Or.inl ⟨e, if_pos (sgr_z.2 e)⟩
  · exact Or.inr ⟨e, if_neg (sgr_ne.2 e), rfl⟩
