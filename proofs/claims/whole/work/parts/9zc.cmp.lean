/-! HOW TWO ROOTS LIE TO ONE ANOTHER -/
/-- root i, counted by N, is not above some point that lies below root j, counted by N' -/
def rlt (N N' : Rat → Int) (i j : Int) : Prop := ∃ x, i < N x ∧ N' x ≤ j
def rcmp (N N' : Rat → Int) (i j r : Int) : Prop := (r = -1 ∧ rlt N N' i j) ∨ (r = 1 ∧ rlt N' N j i) ∨ (r = 0 ∧ ¬ rlt N N' i j ∧ ¬ rlt N' N j i)
/-- where root i lies to the point x -/
noncomputable def sdo (q : Rat → Rat) (N : Rat → Int) (i : Int) (x : Rat) : Int := if i < nm q N x then -1 else if i < N x then 0 else 1
section
variable {q q' : Rat → Rat} {s N s' N' : Rat → Int} {c c' i j : Int}
theorem rlt.excl (hs : rsx q s N c) (hs' : rsx q' s' N' c') (h : rlt N N' i j) : ¬ rlt N' N j i := by
  rintro ⟨y, y1, y2⟩
  obtain ⟨x, x1, x2⟩ := h
  rcases Rat.le_total (a := x) (b := y) with h1 | h1
  · have := hs.mono h1; omega
  · have := hs'.mono h1; omega
theorem rcmp.uniq (hs : rsx q s N c) (hs' : rsx q' s' N' c') {r r' : Int} (h : rcmp N N' i j r) (h' : rcmp N N' i j r') : r = r' := by
  rcases h with ⟨a1, a2⟩ | ⟨a1, a2⟩ | ⟨a1, a2, a3⟩ <;> rcases h' with ⟨b1, b2⟩ | ⟨b1, b2⟩ | ⟨b1, b2, b3⟩
  · omega
  · exact absurd b2 (a2.excl hs hs')
  · exact absurd a2 b2
  · exact absurd a2 (b2.excl hs hs')
  · omega
  · exact absurd a2 b3
  · exact absurd b2 a2
  · exact absurd b2 a3
  · omega
theorem sdo_r (hs : rsx q s N c) (x : Rat) : (sdo q N i x = -1 ∧ i < nm q N x) ∨ (sdo q N i x = 0 ∧ nm q N x ≤ i ∧ i < N x) ∨ (sdo q N i x = 1 ∧ N x ≤ i) := by
  unfold sdo
  split
  · exact Or.inl ⟨rfl, by assumption⟩
  · split
    · exact Or.inr (Or.inl ⟨rfl, by omega, by assumption⟩)
    · exact Or.inr (Or.inr ⟨rfl, by omega⟩)
/-- just below y -/
theorem rsx.lim (hs : rsx q s N c) (y : Rat) : ∃ d : Rat, 0 < d ∧ ∀ x, x < y → y - x < d → N x = nm q N y ∧ q x ≠ 0 := by
  obtain ⟨B, B0, hy, -⟩ := ab_two y y
  obtain ⟨d, d0, hd⟩ := (hs.2.1 (B + 1)).nlim hs.1 (hy.le (by grind))
  obtain ⟨e, e0, e1, e2⟩ := min_pos d0 (show (0 : Rat) < 1 by grind)
  exact ⟨e, e0, fun x x1 x2 => hd x (by unfold ab at *; grind) x1 (by grind)⟩
/-- just above x -/
theorem rsx.rlim (hs : rsx q s N c) (x : Rat) : ∃ d : Rat, 0 < d ∧ ∀ y, x < y → y - x < d → N y = N x ∧ q y ≠ 0 := by
  obtain ⟨B, B0, hx, -⟩ := ab_two x x
  obtain ⟨d, d0, hd⟩ := (hs.2.1 (B + 1)).right hs.1 (hx.le (by grind))
  obtain ⟨e, e0, e1, e2⟩ := min_pos d0 (show (0 : Rat) < 1 by grind)
  exact ⟨e, e0, fun y y1 y2 => by have := hd y (by unfold ab at *; grind) y1 (by grind); exact ⟨this.1, this.2.2⟩⟩
/-- the first root is the point x0 -/
theorem cmp_e (hs : rsx q s N c) (hs' : rsx q' s' N' c') {x0 : Rat} (h1 : nm q N x0 = i) (h2 : N x0 = i + 1) : rcmp N N' i j (-(sdo q' N' j x0)) := by
  rcases sdo_r (i := j) hs' x0 with ⟨a1, a2⟩ | ⟨a1, a2, a3⟩ | ⟨a1, a2⟩ <;> rw [a1]
  · refine Or.inr (Or.inl ⟨by omega, ?_⟩)
    obtain ⟨d, d0, hd⟩ := hs'.lim x0
    refine ⟨x0 - d / 2, ?_, ?_⟩
    · rw [(hd (x0 - d / 2) (by grind) (by grind)).1]; exact a2
    · have := hs.nmm (x := x0 - d / 2) (y := x0) (by grind); omega
  · refine Or.inr (Or.inr ⟨by omega, ?_, ?_⟩)
    · rintro ⟨x, x1, x2⟩
      rcases Rat.le_total (a := x0) (b := x) with h3 | h3
      · have := hs'.mono h3; omega
      · by_cases h4 : x = x0
        · subst h4; omega
        · have := hs.nmm (Rat.lt_of_le_of_ne h3 h4); omega
    · rintro ⟨x, x1, x2⟩
      rcases Rat.le_total (a := x0) (b := x) with h3 | h3
      · have := hs.mono h3; omega
      · by_cases h4 : x = x0
        · subst h4; omega
        · have := hs'.nmm (Rat.lt_of_le_of_ne h3 h4); omega
  · exact Or.inl ⟨by omega, x0, by omega, a2⟩
/-- the second root is the point y0 -/
theorem cmp_f (hs : rsx q s N c) (hs' : rsx q' s' N' c') {y0 : Rat} (h1 : nm q' N' y0 = j) (h2 : N' y0 = j + 1) : rcmp N N' i j (sdo q N i y0) := by
  rcases sdo_r (i := i) hs y0 with ⟨a1, a2⟩ | ⟨a1, a2, a3⟩ | ⟨a1, a2⟩ <;> rw [a1]
  · refine Or.inl ⟨rfl, ?_⟩
    obtain ⟨d, d0, hd⟩ := hs.lim y0
    refine ⟨y0 - d / 2, ?_, ?_⟩
    · rw [(hd (y0 - d / 2) (by grind) (by grind)).1]; exact a2
    · have := hs'.nmm (x := y0 - d / 2) (y := y0) (by grind); omega
  · refine Or.inr (Or.inr ⟨rfl, ?_, ?_⟩)
    · rintro ⟨x, x1, x2⟩
      rcases Rat.le_total (a := y0) (b := x) with h3 | h3
      · have := hs'.mono h3; omega
      · by_cases h4 : x = y0
        · subst h4; omega
        · have := hs.nmm (Rat.lt_of_le_of_ne h3 h4); omega
    · rintro ⟨x, x1, x2⟩
      rcases Rat.le_total (a := y0) (b := x) with h3 | h3
      · have := hs.mono h3; omega
      · by_cases h4 : x = y0
        · subst h4; omega
        · have := hs'.nmm (Rat.lt_of_le_of_ne h3 h4); omega
  · exact Or.inr (Or.inl ⟨rfl, y0, by omega, a2⟩)
theorem cmp_low (hs : rsx q s N c) {y0 : Rat} (h1 : sdo q N i y0 ≤ 0) (h2 : N' y0 = j) : rcmp N N' i j (-1) := by
  have hn := nm_N q N y0
  rcases sdo_r (i := i) hs y0 with ⟨a1, a2⟩ | ⟨a1, a2, a3⟩ | ⟨a1, a2⟩
  · exact Or.inl ⟨rfl, y0, by omega, by omega⟩
  · exact Or.inl ⟨rfl, y0, by omega, by omega⟩
  · omega
theorem cmp_high (hs : rsx q s N c) (hs' : rsx q' s' N' c') {y1 : Rat} (h1 : 0 ≤ sdo q N i y1) (h2 : N' y1 = j + 1) (h3 : q' y1 ≠ 0) : rcmp N N' i j 1 := by
  rcases sdo_r (i := i) hs y1 with ⟨a1, a2⟩ | ⟨a1, a2, a3⟩ | ⟨a1, a2⟩
  · omega
  · refine Or.inr (Or.inl ⟨rfl, ?_⟩)
    obtain ⟨d, d0, hd⟩ := hs.lim y1
    obtain ⟨d', d0', hd'⟩ := hs'.lim y1
    obtain ⟨e, e0, e1, e2⟩ := min_pos d0 d0'
    have k1 := (hd (y1 - e / 2) (by grind) (by grind)).1
    have k2 := (hd' (y1 - e / 2) (by grind) (by grind)).1
    have k3 : nm q' N' y1 = j + 1 := by unfold nm; rw [if_neg h3]; exact h2
    exact ⟨y1 - e / 2, by omega, by omega⟩
  · exact Or.inr (Or.inl ⟨rfl, y1, by omega, a2⟩)
end
theorem rn_1 {h κ ε a b : Rat} (hh : 0 < h) (hk : 0 < κ) (e : ε = h * κ / 8) (h1 : ab a ε) (h2 : ab (a - b - h * (κ / 2)) (h * κ / 8) ∨ h * (κ / 2) - h * κ / 8 ≤ a - b) : b < 0 := by
  have h3 : 0 < h * κ := Rat.mul_pos hh hk
  have e2 : h * (κ / 2) = h * κ / 2 := by grind
  rw [e2] at h2
  unfold ab at *
  generalize h * κ = z at *
  rcases h2 with h2 | h2 <;> grind
/-- where q is 0 at a place, it has a root near by -/
theorem root_near {q q1 u w : Rat → Rat} {s N : Rat → Int} {c : Int} (hs : rsx q s N c) (dq : df q q1) (lq1 : lp q1) (lu : lp u) (lw : lp w) (bq : ∀ x, u x * q x + w x * q1 x = 1) {br : Rat → Rat → Prop} (hp : pla br) (hv : vz br q) {x y x' y' : Rat} (hb : br x y) (hx : x' < x) (hy : y < y') : N x' < N y' := by
  have hxy := hp.1 x y hb
  have hm := hs.mono (x := x') (y := y') (by grind)
  rcases Int.lt_or_eq_of_le hm with h0 | h0
  · exact h0
  exfalso
  obtain ⟨B, B1, bx, bY⟩ := ab_two x' y'
  obtain ⟨U, U0, hU, -⟩ := lu B
  obtain ⟨W, W0, hW, -⟩ := lw B
  obtain ⟨Lq, L0, -, hL⟩ := lq1 B
  obtain ⟨M, M0, hM⟩ := dq B
  -- κ: the slope is at least that
  have hκ : 0 < 1 / (2 * W) := by rw [Rat.div_def]; exact Rat.mul_pos (by grind) (Rat.inv_pos.2 (by grind))
  obtain ⟨κ, eκ⟩ : ∃ κ : Rat, κ = 1 / (2 * W) := ⟨_, rfl⟩
  rw [← eκ] at hκ
  have hκW : κ * W = 1 / 2 := by rw [eκ]; grind
  -- the step
  obtain ⟨h1, h10, h11, h12⟩ := min_pos (show 0 < x - x' by grind) (show 0 < y' - y by grind)
  obtain ⟨h2, h20, h21, h22⟩ := min_pos h10 (show 0 < κ / 8 / M by rw [Rat.div_def]; exact Rat.mul_pos (by grind) (Rat.inv_pos.2 M0))
  obtain ⟨h3, h30, h31, h32⟩ := min_pos h20 (show 0 < κ / 2 / Lq by rw [Rat.div_def]; exact Rat.mul_pos (by grind) (Rat.inv_pos.2 L0))
  have hMh : M * h3 ≤ κ / 8 := by
    have := Rat.mul_le_mul_of_nonneg_left (show h3 ≤ κ / 8 / M by grind) (show 0 ≤ M by grind)
    rw [Rat.mul_comm M (κ / 8 / M), Rat.div_mul_cancel (by grind)] at this
    exact this
  have hLh : Lq * h3 ≤ κ / 2 := by
    have := Rat.mul_le_mul_of_nonneg_left h32 (show 0 ≤ Lq by grind)
    rw [Rat.mul_comm Lq (κ / 2 / Lq), Rat.div_mul_cancel (by grind)] at this
    exact this
  obtain ⟨ε, e0, e1, e2⟩ := min_pos (show 0 < h3 * κ / 8 by have := Rat.mul_pos h30 hκ; grind) (show 0 < 1 / 2 / U by rw [Rat.div_def]; exact Rat.mul_pos (by grind) (Rat.inv_pos.2 U0))
  have hUε : U * ε ≤ 1 / 2 := by
    have := Rat.mul_le_mul_of_nonneg_left e2 (show 0 ≤ U by grind)
    rw [Rat.mul_comm U (1 / 2 / U), Rat.div_mul_cancel (by grind)] at this
    exact this
  obtain ⟨p, r, hpr, hsm⟩ := hv ε e0
  obtain ⟨t, v, htv, t1, t2, t3, t4⟩ := hp.2.1 p r x y hpr hb
  have htv2 := hp.1 t v htv
  have hq := hsm t t1 (by grind)
  have bt : ab t B := ab_mid bx bY (by grind) (by grind)
  have bl : ab (t - h3) B := ab_mid bx bY (by grind) (by grind)
  have bR : ab (t + h3) B := ab_mid bx bY (by grind) (by grind)
  -- the slope at t
  have k1 := (hU t bt).mul hq
  have k2 : 1 / 2 ≤ w t * q1 t := by
    have := bq t
    have k3 := k1.le hUε
    unfold ab at k3
    grind
  have hWt := hW t bt
  have slope : κ ≤ q1 t ∨ q1 t ≤ -κ := by
    by_cases g1 : κ ≤ q1 t
    · exact Or.inl g1
    · by_cases g2 : q1 t ≤ -κ
      · exact Or.inr g2
      · exfalso
        have k4 : ab (q1 t) κ := by unfold ab; grind
        -- |w q1| < 1/2
        have k5 : 0 < κ - q1 t := by grind
        have k6 : 0 < κ + q1 t := by grind
        unfold ab at hWt
        rcases Rat.le_total (a := 0) (b := w t) with g3 | g3
        · have := Rat.mul_le_mul_of_nonneg_left (show q1 t ≤ κ by grind) g3
          have k7 := Rat.mul_le_mul_of_nonneg_right hWt.2 (show 0 ≤ κ by grind)
          by_cases g4 : w t = 0
          · rw [g4] at k2; grind
          · have := Rat.mul_lt_mul_of_pos_left (show q1 t < κ by grind) (show 0 < w t by grind)
            grind
        · by_cases g4 : w t = 0
          · rw [g4] at k2; grind
          · have k8 := Rat.mul_lt_mul_of_pos_left (show -(q1 t) < κ by grind) (show 0 < -(w t) by grind)
            have k7 := Rat.mul_le_mul_of_nonneg_right (show -(w t) ≤ W by grind) (show 0 ≤ κ by grind)
            grind
  have sl := hL (t - h3) t bl bt (by grind)
  have d1 := hM (t - h3) t bl bt (by grind)
  have d2 := hM t (t + h3) bt bR (by grind)
  rw [show t - (t - h3) = h3 by grind] at sl d1
  rw [show t + h3 - t = h3 by grind] at d2
  have mh : M * (h3 * h3) ≤ h3 * κ / 8 := by
    have := Rat.mul_le_mul_of_nonneg_left hMh (show 0 ≤ h3 by grind)
    grind
  have sl' := sl.le hLh
  have d1' := d1.le mh
  have d2' := d2.le mh
  have hz : 0 < h3 * κ := Rat.mul_pos h30 hκ
  have signs : q (t - h3) * q (t + h3) < 0 := by
    rcases slope with g1 | g1
    · have a1 : κ / 2 ≤ q1 (t - h3) := by unfold ab at sl'; grind
      have a2 := Rat.mul_le_mul_of_nonneg_left a1 (show 0 ≤ h3 by grind)
      have a3 := Rat.mul_le_mul_of_nonneg_left g1 (show 0 ≤ h3 by grind)
      have b1 : q (t - h3) < 0 := by
        unfold ab at d1' hq
        generalize h3 * q1 (t - h3) = z1 at *
        have : h3 * (κ / 2) = h3 * κ / 2 := by grind
        rw [this] at a2
        generalize h3 * κ = z at *
        grind
      have b2 : 0 < q (t + h3) := by
        unfold ab at d2' hq
        generalize h3 * q1 t = z1 at *
        generalize h3 * κ = z at *
        grind
      have := Rat.mul_pos (show 0 < -(q (t - h3)) by grind) b2
      grind
    · have a1 : q1 (t - h3) ≤ -(κ / 2) := by unfold ab at sl'; grind
      have a2 := Rat.mul_le_mul_of_nonneg_left a1 (show 0 ≤ h3 by grind)
      have a3 := Rat.mul_le_mul_of_nonneg_left g1 (show 0 ≤ h3 by grind)
      have b1 : 0 < q (t - h3) := by
        unfold ab at d1' hq
        generalize h3 * q1 (t - h3) = z1 at *
        have : h3 * -(κ / 2) = -(h3 * κ / 2) := by grind
        rw [this] at a2
        generalize h3 * κ = z at *
        grind
      have b2 : q (t + h3) < 0 := by
        unfold ab at d2' hq
        generalize h3 * q1 t = z1 at *
        have : h3 * -κ = -(h3 * κ) := by grind
        rw [this] at a3
        generalize h3 * κ = z at *
        grind
      have := Rat.mul_pos b1 (show 0 < -(q (t + h3)) by grind)
      grind
  have n1 := hs.mono (x := x') (y := t - h3) (by grind)
  have n2 := hs.mono (x := t - h3) (y := t + h3) (by grind)
  have n3 := hs.mono (x := t + h3) (y := y') (by grind)
  have q1n : q (t - h3) ≠ 0 := fun h9 => by rw [h9] at signs; grind
  have q2n : q (t + h3) ≠ 0 := fun h9 => by rw [h9] at signs; grind
  have par := (hs.par (x := t - h3) (y := t + h3) (by grind) q1n q2n).1 (by omega)
  have := sgr_opp signs
  have := sgr_ne.2 q1n
  omega
section
variable {q q' q1' u w : Rat → Rat} {s N s' N' : Rat → Int} {c c' i j : Int}
/-- both roots lie in the second one's cell: the sign decides -/
theorem cmp_mid (hs : rsx q s N c) (hs' : rsx q' s' N' c') (dq : df q' q1') (lq1 : lp q1') (lu : lp u) (lw : lp w) (bq : ∀ x, u x * q' x + w x * q1' x = 1) {y0 y1 : Rat} (b0 : ab y0 4294967296) (b1 : ab y1 4294967296) (h0 : N y0 ≤ i) (h1 : i < nm q N y1) (n0 : N' y0 = j) (n1 : N' y1 = j + 1) (z0 : q' y0 ≠ 0) (z1 : q' y1 ≠ 0) (hp : pla (rb q N B0 i)) {s0 : Int} (hsg : sga q N i q' s0) : rcmp N N' i j (if s0 = 0 then 0 else if s0 = sgr (q' y0) then -1 else 1) := by
  have hnm := nm_N q N y1
  have y01 : y0 < y1 := by
    rcases Rat.le_total (a := y1) (b := y0) with h9 | h9
    · have := hs.mono h9; omega
    · refine Rat.lt_of_le_of_ne h9 (fun h8 => ?_)
      rw [h8] at n0; omega
  have bb : rb q N B0 i y0 y1 := ⟨b0.le (by unfold B0; grind), b1.le (by unfold B0; grind), y01, h0, by omega, fun h9 => by have := hnm.2.2.1 h9; omega⟩
  rcases hsg with ⟨e0, hv⟩ | ⟨e0, hv⟩
  · rw [if_pos e0]
    refine Or.inr (Or.inr ⟨rfl, ?_, ?_⟩)
    · rintro ⟨x, x1, x2⟩
      -- y0 < root i ≤ x < root j
      have hx0 : y0 < x := by
        rcases Rat.le_total (a := x) (b := y0) with h9 | h9
        · have := hs.mono h9; omega
        · refine Rat.lt_of_le_of_ne h9 (fun h8 => ?_)
          rw [← h8] at x1; omega
      obtain ⟨d, d0, hd⟩ := hs.rlim y0
      obtain ⟨f, f0, hf⟩ := hs'.rlim x
      obtain ⟨g, g0, g1, g2⟩ := min_pos d0 (show 0 < x - y0 by grind)
      obtain ⟨f3, f30, f31, f32⟩ := min_pos f0 (show (0 : Rat) < 1 by grind)
      obtain ⟨x3, x30, hx3⟩ := hs.rlim x
      obtain ⟨f4, f40, f41, f42⟩ := min_pos f30 x30
      have k1 := (hd (y0 + g / 2) (by grind) (by grind)).1
      have k2 := (hf (x + f4 / 2) (by grind) (by grind)).1
      have k3 := hx3 (x + f4 / 4) (by grind) (by grind)
      have kb : ab x 4294967298 := by
        have : x ≤ y1 := by
          rcases Rat.le_total (a := x) (b := y1) with h9 | h9
          · exact h9
          · have := hs'.mono h9; omega
        unfold ab at *; grind
      have br : rb q N B0 i (y0 + g / 2) (x + f4 / 4) := ⟨by unfold ab B0 at *; grind, by unfold ab B0 at *; grind, by grind, by omega, by omega, fun h9 => absurd h9 k3.2⟩
      have := root_near hs' dq lq1 lu lw bq hp hv br (x' := y0) (y' := x + f4 / 2) (by grind) (by grind)
      omega
    · rintro ⟨x, x1, x2⟩
      have hx1 : x < y1 := by
        rcases Rat.le_total (a := y1) (b := x) with h9 | h9
        · have := hs.mono h9; omega
        · refine Rat.lt_of_le_of_ne h9 (fun h8 => ?_)
          rw [h8] at x2; omega
      obtain ⟨d, d0, hd⟩ := hs.lim y1
      obtain ⟨f, f0, hf⟩ := hs.rlim x
      obtain ⟨g, g0, g1, g2⟩ := min_pos d0 (show 0 < (y1 - x) / 2 by grind)
      obtain ⟨g3, g30, g31, g32⟩ := min_pos f0 (show 0 < (y1 - x) / 2 by grind)
      have k1 := hd (y1 - g / 2) (by grind) (by grind)
      have k2 := (hf (x + g3 / 2) (by grind) (by grind)).1
      have kb : ab x 4294967296 := by
        have : y0 ≤ x := by
          rcases Rat.le_total (a := y0) (b := x) with h9 | h9
          · exact h9
          · have := hs'.mono h9; omega
        unfold ab at *; grind
      have br : rb q N B0 i (x + g3 / 2) (y1 - g / 2) := ⟨by unfold ab B0 at *; grind, by unfold ab B0 at *; grind, by grind, by omega, by omega, fun h9 => absurd h9 k1.2⟩
      have := root_near hs' dq lq1 lu lw bq hp hv br (x' := x) (y' := y1) (by grind) (by grind)
      omega
  · have hne : s0 ≠ 0 := by omega
    rw [if_neg hne]
    obtain ⟨p, r, hpr, ε, ε0, hε⟩ := hv
    obtain ⟨a, b, hab, t1, t2, t3, t4⟩ := hp.2.1 p r y0 y1 hpr bb
    have hlt := hp.1 a b hab
    have sa : ∀ t, a ≤ t → t ≤ b → sgr (q' t) = s0 := fun t u1 u2 => by
      have := hε t (by grind) (by grind)
      exact (sgr_mul e0 (q' t)).1.1 (by grind)
    have qa : q' a ≠ 0 := sgr_ne.1 (by rw [sa a (by grind) (by grind)]; exact hne)
    have qb : q' b ≠ 0 := sgr_ne.1 (by rw [sa b (by grind) (by grind)]; exact hne)
    have ma := hs'.mono (x := y0) (y := a) t3
    have mb := hs'.mono (x := b) (y := y1) t4
    have mab := hs'.mono (x := a) (y := b) (by grind)
    have pa := hs'.par t3 z0 qa
    have pb := hs'.par (Rat.le_trans t3 (by grind)) z0 qb
    rw [sa a (by grind) (by grind)] at pa
    rw [sa b (by grind) (by grind)] at pb
    have hz0 := sgr_ne.2 z0
    by_cases hsl : s0 = sgr (q' y0)
    · rw [if_pos hsl]
      refine Or.inl ⟨rfl, b, hab.2.2.2.2.1, ?_⟩
      rcases (show N' b = j ∨ N' b = j + 1 by omega) with h9 | h9
      · omega
      · have := pb.2 (by omega); omega
    · rw [if_neg hsl]
      refine Or.inr (Or.inl ⟨rfl, a, ?_, hab.2.2.2.1⟩)
      rcases (show N' a = j ∨ N' a = j + 1 by omega) with h9 | h9
      · have := pa.1 (by omega); omega
      · omega
end
