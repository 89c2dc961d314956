section
variable {q : Rat → Rat} {s N : Rat → Int} {B : Rat}
/-- a stretch around root i -/
theorem rct.brk (h : rct q s N B) (ql : lp q) {lo hi : Rat} {i : Int} (hl : ab lo B) (hh : ab hi B) (hlh : lo < hi) (h1 : N lo ≤ i) (h2 : i < nm q N hi) : rb q N B i lo hi := by
  unfold nm at h2
  refine ⟨hl, hh, hlh, h1, ?_, fun h0 => ?_⟩
  · split at h2 <;> omega
  · rw [if_pos h0] at h2; omega
/-- two roots cannot lie too near to one another -/
theorem rct.sep (h : rct q s N B) (ql : lp q) {q1 α β : Rat → Rat} {lo hi A K M c : Rat} (hl : ab lo B) (hh : ab hi B) (hlh : lo < hi) (hA : ∀ x, lo ≤ x → x ≤ hi → ab (α x) A) (hK : ∀ x, lo ≤ x → x ≤ hi → ab (β x) K) (hc : 0 < c) (hbz : ∀ x, lo ≤ x → x ≤ hi → c ≤ α x * q x + β x * q1 x ∨ α x * q x + β x * q1 x ≤ -c) (hM : ∀ x y, lo ≤ x → x ≤ y → y ≤ hi → ab (q y - q x - (y - x) * q1 x) (M * ((y - x) * (y - x)))) (hM0 : 0 ≤ M) (hs : K * (M * (hi - lo)) < c) : nm q N hi ≤ N lo + 1 := by
  refine Classical.byContradiction (fun hcon => ?_)
  -- a place between both
  have m0 := h.mono hl hh (by grind)
  have hnm : nm q N hi ≤ N hi := by unfold nm; split <;> omega
  obtain ⟨z0, z1, z2, z3⟩ := h.ivt hl hh (by grind) (N lo + 1) (by omega) (by omega)
  have hz0 : z0 < hi := by
    by_cases hc : z0 < hi
    · exact hc
    · have : z0 = hi := by grind
      subst this; omega
  have bz0 := ab_mid hl hh z1 z2
  -- a little above it, no root
  obtain ⟨d, hd, r⟩ := h.right ql bz0
  obtain ⟨d', hd', e1, e2⟩ := min_pos hd (show 0 < hi - z0 by grind)
  have bz := ab_mid bz0 hh (show z0 ≤ z0 + d' / 2 by grind) (show z0 + d' / 2 ≤ hi by grind)
  obtain ⟨r1, r2, r3⟩ := r (z0 + d' / 2) bz (by grind) (by grind)
  obtain ⟨z, ez⟩ : ∃ z, z = z0 + d' / 2 := ⟨_, rfl⟩
  rw [← ez] at bz r1 r2 r3
  -- and a little below that
  obtain ⟨d2, hd2, l⟩ := h.left ql bz r3
  obtain ⟨d3, hd3, e3, e4⟩ := min_pos hd2 (show 0 < d' / 2 by grind)
  have bw := ab_mid bz0 bz (show z0 ≤ z - d3 / 2 by grind) (show z - d3 / 2 ≤ z by grind)
  obtain ⟨l1, l2, l3⟩ := l (z - d3 / 2) bw (by grind) (by grind)
  obtain ⟨w, ew⟩ : ∃ w, w = z - d3 / 2 := ⟨_, rfl⟩
  rw [← ew] at bw l1 l2 l3
  have hwz : w < z := by grind
  have hlw : lo < w := by
    by_cases hc : lo < w
    · exact hc
    · have := h.mono bw hl (by grind); omega
  have hzh : z < hi := by grind
  -- both places
  have b1 := h.brk ql hl bw hlw (i := N lo) (by omega) (by unfold nm; rw [if_neg l3]; omega)
  have b2 := h.brk ql bz hh hzh (i := N lo + 1) (by omega) (by omega)
  have v1 := h.vzq ql b1
  have v2 := h.vzq ql b2
  have p1 := h.pla ql b1
  have p2 := h.pla ql b2
  have hK0 : 0 ≤ K := (hK lo (by grind) (by grind)).nn
  have hA0 : 0 ≤ A := (hA lo (by grind) (by grind)).nn
  -- how small
  obtain ⟨g, hg⟩ : ∃ g, g = c - K * (M * (hi - lo)) := ⟨_, rfl⟩
  have hg0 : 0 < g := by grind
  have hgap : 0 < z - w := by grind
  obtain ⟨D, hD⟩ : ∃ D, D = A * (z - w) + 2 * K + (z - w) := ⟨_, rfl⟩
  have hAz := Rat.mul_nonneg hA0 (show 0 ≤ z - w by grind)
  have hD0 : 0 < D := by grind
  have hε : 0 < g * (z - w) / D := by rw [Rat.div_def]; exact Rat.mul_pos (Rat.mul_pos hg0 hgap) (Rat.inv_pos.2 hD0)
  have hεD : g * (z - w) / D * D = g * (z - w) := Rat.div_mul_cancel (by clear hε; grind)
  generalize g * (z - w) / D = ε at *
  obtain ⟨x1, y1, c1, c2⟩ := v1 ε hε
  obtain ⟨x2, y2, c3, c4⟩ := v2 ε hε
  obtain ⟨x, _, b3, f1, f2, f3, f4⟩ := p1.2.1 _ _ _ _ c1 b1
  obtain ⟨_, y, b4, f5, f6, f7, f8⟩ := p2.2.1 _ _ _ _ c3 b2
  have hx0 := b3.2.2.1
  have hy0 := b4.2.2.1
  have qx := c2 x f1 (by grind)
  have qy := c4 y (by grind) f6
  have hxw : x < w := by grind
  have hzy : z < y := by grind
  have t := hM x y (by grind) (by grind) (by grind)
  have bb := hbz x (by grind) (by grind)
  have aa := (hA x (by grind) (by grind)).mul qx
  have kk := hK x (by grind) (by grind)
  clear hbz hM hA hK c2 c4 v1 v2 l r
  -- |q1 x| (y - x) ≤ 2 ε + M (y - x)^2
  have hyx : 0 < y - x := by grind
  have u1 : ab ((y - x) * q1 x) (2 * ε + M * ((y - x) * (y - x))) := by
    have := (qy.sub qx).sub t
    rw [show q y - q x - (q y - q x - (y - x) * q1 x) = (y - x) * q1 x by grind] at this
    exact this.le (by grind)
  -- times β
  have u2 := kk.mul u1
  -- sum times (y - x)
  have u3 : ab ((y - x) * (α x * q x + β x * q1 x)) ((y - x) * (A * ε) + K * (2 * ε + M * ((y - x) * (y - x)))) := by
    have h5 : ab ((y - x) * (α x * q x)) ((y - x) * (A * ε)) := (show ab (y - x) (y - x) by unfold ab; grind).mul aa
    have h6 := h5.add u2
    rw [show (y - x) * (α x * q x) + β x * ((y - x) * q1 x) = (y - x) * (α x * q x + β x * q1 x) by grind] at h6
    exact h6
  have u4 : (y - x) * c ≤ (y - x) * (A * ε) + K * (2 * ε + M * ((y - x) * (y - x))) := by
    unfold ab at u3
    rcases bb with bb | bb
    · have := Rat.mul_le_mul_of_nonneg_left bb (show 0 ≤ y - x by grind)
      grind
    · have := Rat.mul_le_mul_of_nonneg_left bb (show 0 ≤ y - x by grind)
      grind
  -- K M (y - x)^2 ≤ (y - x) K M (hi - lo)
  have u5 : K * (M * ((y - x) * (y - x))) ≤ (y - x) * (K * (M * (hi - lo))) := by
    have h5 := Rat.mul_le_mul_of_nonneg_left (show y - x ≤ hi - lo by grind) hM0
    have h6 := Rat.mul_le_mul_of_nonneg_left h5 hK0
    have h7 := Rat.mul_le_mul_of_nonneg_left h6 (show 0 ≤ y - x by grind)
    grind
  have u6 : (y - x) * g ≤ ε * ((y - x) * A + 2 * K) := by
    rw [hg]; grind
  -- but ε (A + 2 K / (z - w)) < g
  have u7 : (y - x) * (ε * D) = (y - x) * (g * (z - w)) := by rw [hεD]
  have u8 : ε * ((y - x) * A + 2 * K) * (z - w) ≤ ε * ((y - x) * (A * (z - w) + 2 * K)) := by
    have h5 := Rat.mul_le_mul_of_nonneg_left (show z - w ≤ y - x by grind) (Rat.mul_nonneg (show 0 ≤ ε by grind) (show 0 ≤ 2 * K by grind))
    grind
  have u9 := Rat.mul_le_mul_of_nonneg_right u6 (show 0 ≤ z - w by grind)
  have u10 := Rat.mul_pos (Rat.mul_pos hε hyx) hgap
  have u11 : (y - x) * (ε * D) = ε * ((y - x) * (A * (z - w) + 2 * K)) + ε * (y - x) * (z - w) := by rw [hD]; grind
  grind
end
