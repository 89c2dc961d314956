/-! FLOORS: the cell of a level in which root i lies -/
/-- root i lies from z over 2 to the lev on, below the next -/
def flo (q : Rat → Rat) (N : Rat → Int) (i z lev : Int) : Prop := nm q N (dy z lev) ≤ i ∧ i < nm q N (dy (z + 1) lev)
/-- .. over any whole number above 0 -/
def flT (q : Rat → Rat) (N : Rat → Int) (i w T : Int) : Prop := nm q N ((w : Rat) / (T : Rat)) ≤ i ∧ i < nm q N (((w + 1 : Int) : Rat) / (T : Rat))
theorem rlt_dd {a b c d : Int} (hb : 0 < b) (hd : 0 < d) : (a : Rat) / (b : Rat) < (c : Rat) / (d : Rat) ↔ a * d < c * b := by
  have h1 : (0 : Rat) < b := Rat.intCast_pos.2 hb
  have h2 : (0 : Rat) < d := Rat.intCast_pos.2 hd
  have e1 : (a : Rat) / (b : Rat) * ((b : Rat) * d) = (a : Rat) * d := by
    have : (b : Rat) * (b : Rat)⁻¹ = 1 := Rat.mul_inv_cancel _ (by grind)
    rw [Rat.div_def]; grind
  have e2 : (c : Rat) / (d : Rat) * ((b : Rat) * d) = (c : Rat) * b := by
    have : (d : Rat) * (d : Rat)⁻¹ = 1 := Rat.mul_inv_cancel _ (by grind)
    rw [Rat.div_def]; grind
  rw [← Rat.mul_lt_mul_right (Rat.mul_pos h1 h2), e1, e2, ← Rat.intCast_mul, ← Rat.intCast_mul, Rat.intCast_lt_intCast]
theorem rle_dd {a b c d : Int} (hb : 0 < b) (hd : 0 < d) : (a : Rat) / (b : Rat) ≤ (c : Rat) / (d : Rat) ↔ a * d ≤ c * b := by
  rw [← Rat.not_lt, rlt_dd hd hb, Int.not_lt]
section
variable {q : Rat → Rat} {s N : Rat → Int} {c : Int}
theorem flo.uniq (h : rts q N c) {i z w lev : Int} (h1 : flo q N i z lev) (h2 : flo q N i w lev) : z = w := by
  rcases Int.lt_or_le z w with h3 | h3
  · have := h.nn (dy_le.2 (show z + 1 ≤ w by omega) : dy (z + 1) lev ≤ dy w lev)
    have := h1.2; have := h2.1; omega
  · rcases Int.lt_or_le w z with h4 | h4
    · have := h.nn (dy_le.2 (show w + 1 ≤ z by omega) : dy (w + 1) lev ≤ dy z lev)
      have := h2.2; have := h1.1; omega
    · omega
theorem flT.uniq (h : rts q N c) {i z w T : Int} (hT : 0 < T) (h1 : flT q N i z T) (h2 : flT q N i w T) : z = w := by
  rcases Int.lt_or_le z w with h3 | h3
  · have := h.nn ((rle_dd hT hT).2 (Int.mul_le_mul_of_nonneg_right (show z + 1 ≤ w by omega) (by omega)))
    have := h1.2; have := h2.1; omega
  · rcases Int.lt_or_le w z with h4 | h4
    · have := h.nn ((rle_dd hT hT).2 (Int.mul_le_mul_of_nonneg_right (show w + 1 ≤ z by omega) (by omega)))
      have := h2.2; have := h1.1; omega
    · omega
theorem flo.down (h : rts q N c) {i z lev m : Int} (h1 : flo q N i z lev) (hm : m ≤ lev) : flo q N i (atl z lev m) m := by
  unfold atl
  generalize hk : (lev - m).toNat = k
  have hp := ip_pos (B := 2) (by decide) k
  have e1 := Int.mul_ediv_self_le (x := z) (k := 2 ^ k) (by omega)
  have e2 := Int.lt_mul_ediv_self_add (x := z) (k := 2 ^ k) hp
  generalize z / 2 ^ k = y at *
  have el : lev = m + k := by omega
  rw [el] at h1
  have d1 := dy_k y m k
  have d2 := dy_k (y + 1) m k
  rw [Int.mul_comm] at e1
  rw [Int.mul_comm] at e2
  have e3 : z + 1 ≤ (y + 1) * 2 ^ k := by rw [Int.add_mul, Int.one_mul]; omega
  have n1 := h.nn (dy_le (lev := m + k) |>.2 e1)
  have n2 := h.nn (dy_le (lev := m + k) |>.2 e3)
  rw [d1] at n1
  rw [d2] at n2
  exact ⟨Int.le_trans n1 h1.1, Int.lt_of_lt_of_le h1.2 n2⟩
theorem ccl.ends {i z lev ls x : Int} (h : ccl q N i z lev ls x) : nm q N (dy z lev) = i ∧ nm q N (dy (z + 1) lev) = i + 1 := by
  obtain ⟨h1, h2, h3, -⟩ := h
  refine ⟨h1, ?_⟩
  show (if q (dy (z + 1) lev) = 0 then _ else _) = _
  rw [if_neg h3, h2]
theorem ccl.up (h : rts q N c) {i z lev ls : Int} (hc : ccl q N i z lev ls 1) {y : Rat} (hy : dy z lev < y) : i < nm q N y := by
  have h1 := hc.1
  rcases hc.2.2.2.1 with ⟨h2, -⟩ | ⟨-, h2, -⟩
  · have h3 := (nm_N q N (dy z lev)).2.2.1 h2
    have := h.2.1 _ _ hy
    omega
  · omega
/-- the floor of root i at level n, from a cell that is fine enough or exact -/
theorem ccl.two (h : rts q N c) {i z lev ls x n : Int} (hc : ccl q N i z lev ls x) (hx : x = 1 ∨ n ≤ lev) : flo q N i (if 0 ≤ n - lev then z * 2 ^ (n - lev).toNat else z / 2 ^ (-(n - lev)).toNat) n := by
  rcases Int.lt_or_le lev n with h1 | h1
  · have hx1 : x = 1 := by omega
    subst hx1
    rw [if_pos (by omega)]
    generalize hk : (n - lev).toNat = k
    have el : n = lev + k := by omega
    rw [el]
    refine ⟨by rw [dy_k]; rw [hc.1]; omega, hc.up h ?_⟩
    rw [← dy_k z lev k]
    exact dy_lt.2 (by omega)
  · have h2 := hc.ends
    rw [mv_atl h1]
    exact flo.down h ⟨by omega, by omega⟩ h1
/-- nn is the first level at which roots i and i + 1 lie apart -/
def apt (q : Rat → Rat) (N : Rat → Int) (i nn : Int) : Prop := 0 ≤ nn ∧ (∀ m, nn ≤ m → ∀ z, flo q N i z m → flo q N (i + 1) z m → False) ∧ (0 < nn → ∃ z, flo q N i z (nn - 1) ∧ flo q N (i + 1) z (nn - 1))
theorem apt_of (h : rts q N c) {i za la lsa xa zb lb lsb xb nn : Int} (ha : ccl q N i za la lsa xa) (hb : ccl q N (i + 1) zb lb lsb xb) (h0 : 0 ≤ nn) (h1 : ∀ m, nn ≤ m → m ≤ (min la lb) → atl za la m ≠ atl zb lb m) (h2 : 0 < nn → nn - 1 ≤ (min la lb) ∧ atl za la (nn - 1) = atl zb lb (nn - 1)) : apt q N i nn := by
  have ea := ha.ends
  have eb := hb.ends
  have fa : flo q N i za la := ⟨by omega, by omega⟩
  have fb : flo q N (i + 1) zb lb := ⟨by omega, by omega⟩
  have at0 : ∀ m, (min la lb) ≤ m → ∀ z, flo q N i z m → flo q N (i + 1) z m → False := by
    intro m hm z k1 k2
    have l1 := k1.down h hm
    have l2 := k2.down h hm
    rcases Int.le_total la lb with h3 | h3
    · rw [show min la lb = la by omega] at l1 l2
      have e1 := fa.uniq h l1
      rw [← e1] at l2
      have := l2.2; omega
    · rw [show min la lb = lb by omega] at l1 l2
      have e1 := fb.uniq h l2
      rw [← e1] at l1
      have := l1.1; omega
  refine ⟨h0, fun m hm z k1 k2 => ?_, fun hp => ?_⟩
  · rcases Int.lt_or_le (min la lb) m with h3 | h3
    · exact at0 m (by omega) z k1 k2
    · refine h1 m hm h3 ?_
      rw [(fa.down h (show m ≤ la by omega)).uniq h k1, (fb.down h (show m ≤ lb by omega)).uniq h k2]
  · obtain ⟨h3, h4⟩ := h2 hp
    refine ⟨_, fa.down h (by omega), ?_⟩
    rw [h4]
    exact fb.down h (by omega)
/-- r is the first level at which all of the first k roots lie apart -/
def aps (q : Rat → Rat) (N : Rat → Int) (k r : Int) : Prop := 0 ≤ r ∧ (∀ i, 0 ≤ i → i + 1 < k → ∀ m, r ≤ m → ∀ z, flo q N i z m → flo q N (i + 1) z m → False) ∧ (0 < r → ∃ i, 0 ≤ i ∧ i + 1 < k ∧ ∃ z, flo q N i z (r - 1) ∧ flo q N (i + 1) z (r - 1))
theorem aps_0 {k : Int} (hk : k ≤ 1) : aps q N k 0 := ⟨by omega, fun i h1 h2 => by omega, fun h => by omega⟩
theorem aps_s {k r nn : Int} (hk : 1 ≤ k) (h : aps q N k r) (h1 : apt q N (k - 1) nn) : aps q N (k + 1) (max r nn) := by
  obtain ⟨a1, a2, a3⟩ := h
  obtain ⟨b1, b2, b3⟩ := h1
  refine ⟨by omega, fun i i1 i2 m hm => ?_, fun hp => ?_⟩
  · rcases Int.lt_or_le (i + 1) k with h5 | h5
    · exact a2 i i1 h5 m (by omega)
    · rw [show i = k - 1 by omega]
      exact b2 m (by omega)
  · rcases Int.le_total r nn with h5 | h5
    · rw [show max r nn = nn by omega] at hp ⊢
      exact ⟨k - 1, by omega, by omega, b3 hp⟩
    · rw [show max r nn = r by omega] at hp ⊢
      obtain ⟨i, i1, i2, i3⟩ := a3 hp
      exact ⟨i, i1, by omega, i3⟩
theorem aps.uniq {k r r' : Int} (h : aps q N k r) (h' : aps q N k r') : r = r' := by
  have one : ∀ {r r' : Int}, aps q N k r → aps q N k r' → r < r' → False := fun {r r'} h h' hlt => by
    obtain ⟨i, i1, i2, z, i3, i4⟩ := h'.2.2 (by have := h.1; omega)
    exact h.2.1 i i1 i2 _ (by omega) z i3 i4
  rcases Int.lt_or_le r r' with h1 | h1
  · exact (one h h' h1).elim
  · rcases Int.lt_or_le r' r with h2 | h2
    · exact (one h' h h2).elim
    · omega
theorem dy_div (z : Int) (k : Nat) : dy z (k : Int) = (z : Rat) / ((2 ^ k : Int) : Rat) := by
  unfold dy
  rw [ptX_nn, ptE_nn]
/-- floors over 10 to the n: where the cell is exact .. -/
theorem ccl.ten1 (h : rts q N c) {i z lev ls : Int} {n : Nat} (hc : ccl q N i z lev ls 1) : flT q N i (mvd (z * 10 ^ n) lev) (10 ^ n) := by
  have hT : (0 : Int) < 10 ^ n := ip_pos (by decide) n
  generalize (10 : Int) ^ n = T at *
  unfold mvd
  rcases Int.lt_or_le 0 lev with h1 | h1
  · rw [if_neg (by omega)]
    obtain ⟨k, rfl⟩ : ∃ k : Nat, lev = (k : Int) := ⟨lev.toNat, by omega⟩
    rw [show (-(-(k : Int))).toNat = k by omega]
    have hp := ip_pos (B := 2) (by decide) k
    have e1 := Int.mul_ediv_self_le (x := z * T) (k := 2 ^ k) (by omega)
    have e2 := Int.lt_mul_ediv_self_add (x := z * T) (k := 2 ^ k) hp
    generalize z * T / 2 ^ k = y at *
    refine ⟨?_, hc.up h ?_⟩
    · refine Int.le_trans (h.nn ?_) (Int.le_of_eq hc.1)
      rw [dy_div, rle_dd hT hp, Int.mul_comm]
      exact e1
    · rw [dy_div, rlt_dd hp hT, Int.add_mul, Int.one_mul, Int.mul_comm y]
      exact e2
  · rw [if_pos (by omega)]
    obtain ⟨k, rfl⟩ : ∃ k : Nat, lev = -(k : Int) := ⟨(-lev).toNat, by omega⟩
    rw [show (- -(k : Int)).toNat = k by omega]
    have ed : dy z (-(k : Int)) = ((z * T * 2 ^ k : Int) : Rat) / (T : Rat) := by
      have h9 := Rat.intCast_pos.2 hT
      rw [dy_u, un_ng, Rat.intCast_mul, Rat.intCast_mul]
      generalize ((2 ^ k : Int) : Rat) = A at *
      generalize (T : Rat) = B at *
      rw [Rat.div_def]
      have : B * B⁻¹ = 1 := Rat.mul_inv_cancel _ (by grind)
      grind
    refine ⟨by rw [← ed, hc.1]; omega, hc.up h ?_⟩
    rw [ed, rlt_dd hT hT]
    exact Int.mul_lt_mul_of_pos_right (by omega) hT
/-- .. and where it is fine -/
theorem ccl.ten0 (hs : rsx q s N c) {i z ls : Int} {n k : Nat} (hc : ccl q N i z (k : Int) ls 0) (hk : (10 : Int) ^ n ≤ 2 ^ k) {v : Int} (hv : v = if mvd (z * 10 ^ n) k = mvd (z * 10 ^ n + 1 * 10 ^ n + -1) k then mvd (z * 10 ^ n) k else if sgr (q ((mvd (z * 10 ^ n + 1 * 10 ^ n + -1) k : Rat) / ((10 ^ n : Int) : Rat))) = 0 ∨ sgr (q ((mvd (z * 10 ^ n + 1 * 10 ^ n + -1) k : Rat) / ((10 ^ n : Int) : Rat))) = ls then mvd (z * 10 ^ n + 1 * 10 ^ n + -1) k else mvd (z * 10 ^ n) k) : flT q N i v (10 ^ n) := by
  have h := hs.rts
  have hT : (0 : Int) < 10 ^ n := ip_pos (by decide) n
  generalize (10 : Int) ^ n = T at *
  have emv : ∀ y : Int, mvd y (k : Int) = y / 2 ^ k := by
    intro y
    unfold mvd
    rcases Nat.eq_zero_or_pos k with h1 | h1
    · subst h1
      rw [if_pos (by omega)]
      show y * 2 ^ 0 = y / 2 ^ 0
      rw [Int.pow_zero, Int.mul_one, Int.ediv_one]
    · rw [if_neg (by omega), show (-(-(k : Int))).toNat = k by omega]
  rw [emv, emv] at hv
  have hp := ip_pos (B := 2) (by decide) k
  have a1 := Int.mul_ediv_self_le (x := z * T) (k := 2 ^ k) (by omega)
  have a2 := Int.lt_mul_ediv_self_add (x := z * T) (k := 2 ^ k) hp
  have b1 := Int.mul_ediv_self_le (x := z * T + 1 * T + -1) (k := 2 ^ k) (by omega)
  have b2 := Int.lt_mul_ediv_self_add (x := z * T + 1 * T + -1) (k := 2 ^ k) hp
  have ab1 : z * T / 2 ^ k ≤ (z * T + 1 * T + -1) / 2 ^ k := Int.ediv_le_ediv hp (by omega)
  have ab2 : (z * T + 1 * T + -1) / 2 ^ k ≤ z * T / 2 ^ k + 1 := by
    have h1 : (z * T + 1 * T + -1) / 2 ^ k ≤ (z * T + 1 * 2 ^ k) / 2 ^ k := Int.ediv_le_ediv hp (by omega)
    rw [Int.add_mul_ediv_right _ _ (by omega)] at h1
    exact h1
  generalize z * T / 2 ^ k = A at *
  generalize (z * T + 1 * T + -1) / 2 ^ k = Bm at *
  obtain ⟨i1, i2, i3, i4, i5⟩ := hc.in0 hs
  have c2 := hc.ends
  have lo : nm q N ((A : Rat) / (T : Rat)) ≤ i := by
    refine Int.le_trans (h.nn ?_) (Int.le_of_eq c2.1)
    rw [dy_div, rle_dd hT hp, Int.mul_comm]
    exact a1
  have up : i < nm q N (((Bm + 1 : Int) : Rat) / (T : Rat)) := by
    have h1 : dy (z + 1) (k : Int) ≤ ((Bm + 1 : Int) : Rat) / (T : Rat) := by
      rw [dy_div, rle_dd hp hT, Int.add_mul, Int.add_mul, Int.one_mul, Int.one_mul, Int.mul_comm Bm]
      omega
    have := h.nn h1
    omega
  by_cases hab : A = Bm
  · rw [if_pos hab] at hv
    subst hv
    exact ⟨lo, by rw [hab]; exact up⟩
  · rw [if_neg hab] at hv
    have eB : Bm = A + 1 := by omega
    have x1 : dy z (k : Int) ≤ (Bm : Rat) / (T : Rat) := by
      rw [dy_div, rle_dd hp hT, eB, Int.add_mul, Int.one_mul, Int.mul_comm A]
      omega
    have x2 : (Bm : Rat) / (T : Rat) < dy (z + 1) (k : Int) := by
      rw [dy_div, rlt_dd hT hp, Int.add_mul, Int.one_mul, Int.mul_comm Bm]
      omega
    have up2 : nm q N (((A + 1 : Int) : Rat) / (T : Rat)) = nm q N ((Bm : Rat) / (T : Rat)) := by rw [eB]
    generalize ey : (Bm : Rat) / (T : Rat) = y at *
    have n1 := hs.mono x1
    have n2 := hs.nmm x2
    have n3 := nm_N q N y
    have n4 := hs.par x1 i2
    have n5 := sgr_b (q y)
    by_cases hq : sgr (q y) = 0 ∨ sgr (q y) = ls
    · rw [if_pos hq] at hv
      subst hv
      refine ⟨?_, up⟩
      show nm q N _ ≤ i
      rw [ey]
      by_cases h0 : q y = 0
      · have := n3.2.2.1 h0
        omega
      · have h1 := sgr_ne.2 h0
        have h2 := (n4 h0).2
        rcases (show N y = i ∨ N y = i + 1 by omega) with h3 | h3
        · omega
        · have := h2 (by omega); omega
    · rw [if_neg hq] at hv
      subst hv
      refine ⟨lo, ?_⟩
      rw [up2]
      have h0 : q y ≠ 0 := fun h0 => hq (Or.inl (sgr_z.2 h0))
      have h2 := (n4 h0).1
      rcases (show N y = i ∨ N y = i + 1 by omega) with h3 | h3
      · have := h2 (by omega); omega
      · have : nm q N y = N y := if_neg h0
        omega
end
