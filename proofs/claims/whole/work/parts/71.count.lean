/-- the sign just above x -/
def sr (q q1 : Rat → Rat) (x : Rat) : Int := if q x = 0 then sgr (q1 x) else sgr (q x)
/-- N counts the places up to x where q is 0 or changes its sign, between -B and B -/
def rct (q : Rat → Rat) (s : Rat → Int) (N : Rat → Int) (B : Rat) : Prop := (∃ d : Rat, 0 < d ∧ ∀ x y, ab x B → ab y B → x < y → y - x < d → (N y = N x ∧ s y = s x ∧ q y ≠ 0) ∨ (N y = N x + 1 ∧ s y = - s x ∧ q x ≠ 0)) ∧ (∀ x, ab x B → s x = 1 ∨ s x = -1) ∧ ∀ x, ab x B → q x ≠ 0 → s x = sgr (q x)
theorem rct.lc {q : Rat → Rat} {s N : Rat → Int} {B : Rat} (h : rct q s N B) : ∃ d : Rat, 0 < d ∧ ∀ x y, ab x B → ab y B → x < y → y - x < d → (N y = N x ∧ s y = s x ∧ q y ≠ 0) ∨ (N y = N x + 1 ∧ s y = - s x ∧ q x ≠ 0) := h.1
theorem rct.s1 {q : Rat → Rat} {s N : Rat → Int} {B : Rat} (h : rct q s N B) : ∀ x, ab x B → s x = 1 ∨ s x = -1 := h.2.1
theorem rct.sq {q : Rat → Rat} {s N : Rat → Int} {B : Rat} (h : rct q s N B) : ∀ x, ab x B → q x ≠ 0 → s x = sgr (q x) := h.2.2
theorem chn.rct {k : Nat → Rat → Rat} {m : Nat} {a c : Nat → Rat} {g : Nat → Rat → Rat} (h : chn k m a c g) (hd : 1 ≤ m → df (k 0) (k 1)) (V0 : Int) (B : Rat) : rct (k 0) (sr (k 0) (k 1)) (fun x => V0 - vx k m x) B := by
  have key : ∀ x, ab x B → k 0 x = 0 → k 1 x ≠ 0 := by
    intro x hx h0 h1
    rcases Nat.eq_zero_or_pos m with hm | hm
    · subst hm; have := h.en x; grind
    · obtain ⟨u, w, _, _, e⟩ := h.bez (m - 1) 0 (by omega)
      have := e x
      simp only [Nat.zero_add] at this
      grind
  refine ⟨?_, ?_, ?_⟩
  · rcases Nat.eq_zero_or_pos m with hm | hm
    · subst hm
      refine ⟨1, by grind, fun x y hx hy hxy hl => Or.inl ?_⟩
      have e1 := h.en x
      have e2 := h.en y
      simp only [vx, vr, sr, e1, e2]
      have : ¬ (1 : Rat) = 0 := by grind
      simp [this]
    · obtain ⟨d1, hd1, l1⟩ := h.loc B
      obtain ⟨u, w, hu, hw, e⟩ := h.bez (m - 1) 0 (by omega)
      obtain ⟨d2, ε, hd2, hε, l2⟩ := near_one (h.kl 0 (by omega)) (h.kl 1 (by omega)) hu hw e B
      obtain ⟨d3, hd3, l3⟩ := (hd hm).rise hε B
      obtain ⟨d4, hd4, m1, m2⟩ := min_pos hd1 hd2
      obtain ⟨d5, hd5, m3, m4⟩ := min_pos hd4 hd3
      refine ⟨d5, hd5, fun x y hx hy hxy hl => ?_⟩
      show (V0 - vx k m y = V0 - vx k m x ∧ sr (k 0) (k 1) y = sr (k 0) (k 1) x ∧ k 0 y ≠ 0) ∨ (V0 - vx k m y = V0 - vx k m x + 1 ∧ sr (k 0) (k 1) y = - sr (k 0) (k 1) x ∧ k 0 x ≠ 0)
      have hl4 := Std.lt_of_lt_of_le hl m3
      have hl3 := Std.lt_of_lt_of_le hl m4
      have hl2 := Std.lt_of_lt_of_le hl4 m2
      have hl1 := Std.lt_of_lt_of_le hl4 m1
      obtain ⟨a1, a2⟩ := l1 x y hx hy (by grind) hl1
      by_cases hk : keep (k 0) x y
      · left
        have h1 := a1 hk
        have h2 := hk.sg
        have hx0 : k 0 x ≠ 0 := fun h0 => by unfold keep at hk; rw [h0] at hk; grind
        have hy0 : k 0 y ≠ 0 := fun h0 => by unfold keep at hk; rw [h0] at hk; grind
        refine ⟨by omega, ?_, hy0⟩
        unfold sr; rw [if_neg hx0, if_neg hy0, h2.1]
      · obtain ⟨b1, _, b2⟩ := a2 hk
        obtain ⟨b3, b4⟩ := l2 x y hx hy (by grind) hl2 hk
        obtain ⟨b5, b6⟩ := l3 x y hx hy hxy hl3
        have hkx : ¬ ((0 < k 0 x ∧ 0 < k 0 y) ∨ (k 0 x < 0 ∧ k 0 y < 0)) := fun h' => hk (mul_pos_iff'.2 h')
        have hk1 := b1.sg
        have hsx := sgr_r (k 0 x)
        have hsy := sgr_r (k 0 y)
        have hs1x := sgr_r (k 1 x)
        have hs1y := sgr_r (k 1 y)
        clear l1 l2 l3 a1 a2 hl hl1 hl2 hl3 hl4
        unfold sr
        rcases b4 with b4 | b4
        · have b7 := b5 b4
          have e1 : sgr (k 1 x) = 1 := by grind
          have e2 : sgr (k 1 y) = 1 := by omega
          rw [e1] at b2 ⊢
          rw [e2]
          by_cases hx0 : k 0 x = 0
          · left
            have hy0 : ¬ k 0 y = 0 := by grind
            have f1 : sgr (k 0 y) = 1 := by grind
            have f2 : sgr (k 0 x) = 0 := by grind
            rw [if_pos hx0, if_neg hy0, f1]
            rw [f1, f2] at b2
            simp at b2
            exact ⟨by omega, rfl, hy0⟩
          · right
            have f1 : sgr (k 0 x) = -1 := by grind
            rw [if_neg hx0, f1]
            rw [f1] at b2
            by_cases hy0 : k 0 y = 0
            · have f2 : sgr (k 0 y) = 0 := by grind
              rw [if_pos hy0]
              rw [f2] at b2
              simp at b2
              exact ⟨by omega, rfl, hx0⟩
            · have f2 : sgr (k 0 y) = 1 := by grind
              rw [if_neg hy0, f2]
              rw [f2] at b2
              simp at b2
              exact ⟨by omega, rfl, hx0⟩
        · have b7 := b6 b4
          have e1 : sgr (k 1 x) = -1 := by grind
          have e2 : sgr (k 1 y) = -1 := by omega
          rw [e1] at b2 ⊢
          rw [e2]
          by_cases hx0 : k 0 x = 0
          · left
            have hy0 : ¬ k 0 y = 0 := by grind
            have f1 : sgr (k 0 y) = -1 := by grind
            have f2 : sgr (k 0 x) = 0 := by grind
            rw [if_pos hx0, if_neg hy0, f1]
            rw [f1, f2] at b2
            simp at b2
            exact ⟨by omega, rfl, hy0⟩
          · right
            have f1 : sgr (k 0 x) = 1 := by grind
            rw [if_neg hx0, f1]
            rw [f1] at b2
            by_cases hy0 : k 0 y = 0
            · have f2 : sgr (k 0 y) = 0 := by grind
              rw [if_pos hy0]
              rw [f2] at b2
              simp at b2
              exact ⟨by omega, rfl, hx0⟩
            · have f2 : sgr (k 0 y) = -1 := by grind
              rw [if_neg hy0, f2]
              rw [f2] at b2
              simp at b2
              exact ⟨by omega, rfl, hx0⟩
  · intro x hx
    unfold sr
    have h0 := key x hx
    rcases sgr_r (k 0 x) with g | g | g <;> rcases sgr_r (k 1 x) with g' | g' | g' <;> grind
  · intro x _ h0
    unfold sr; rw [if_neg h0]
/-- from near by to everywhere -/
theorem grid {B d : Rat} (hd : 0 < d) {R : Rat → Rat → Prop} (h0 : ∀ x, ab x B → R x x) (ht : ∀ x y z, ab x B → ab y B → ab z B → x < y → y < z → R x y → R y z → R x z) (hl : ∀ x y, ab x B → ab y B → x < y → y - x < d → R x y) : ∀ x y, ab x B → ab y B → x ≤ y → R x y := by
  have key : ∀ n : Nat, ∀ x y, ab x B → ab y B → x ≤ y → y - x ≤ n * (d / 2) → R x y := by
    intro n
    induction n with
    | zero =>
      intro x y hx hy hxy hn
      have : x = y := by grind
      subst this; exact h0 x hx
    | succ n ih =>
      intro x y hx hy hxy hn
      by_cases hs : y - x < d
      · by_cases he : x = y
        · subst he; exact h0 x hx
        · exact hl x y hx hy (by grind) hs
      · have hz : ab (y - d / 2) B := by unfold ab at *; grind
        refine ht x (y - d / 2) y hx hz hy (by grind) (by grind) (ih x (y - d / 2) hx hz (by grind) ?_) (hl _ _ hz hy (by grind) (by grind))
        have : ((n + 1 : Nat) : Rat) = n + 1 := by push_cast; rfl
        grind
  intro x y hx hy hxy
  have h2 : 0 < d / 2 := by grind
  refine key ((y - x) / (d / 2)).ceil.toNat x y hx hy hxy ?_
  have h3 := Rat.le_ceil (x := (y - x) / (d / 2))
  have h4 : ((y - x) / (d / 2)).ceil ≤ (((y - x) / (d / 2)).ceil.toNat : Int) := Int.self_le_toNat _
  have h5 : ((((y - x) / (d / 2)).ceil : Int) : Rat) ≤ (((((y - x) / (d / 2)).ceil.toNat : Int)) : Rat) := Rat.intCast_le_intCast.2 h4
  have h6 : (y - x) / (d / 2) * (d / 2) = y - x := Rat.div_mul_cancel (by grind)
  have h7 := Rat.mul_le_mul_of_nonneg_right (Rat.le_trans h3 h5) (show 0 ≤ d / 2 by grind)
  rw [h6] at h7
  exact h7
section
variable {q : Rat → Rat} {s N : Rat → Int} {B : Rat}
theorem ab_mid {x y z B : Rat} (hx : ab x B) (hy : ab y B) (h1 : x ≤ z) (h2 : z ≤ y) : ab z B := by unfold ab at *; grind
theorem rct.mono (h : rct q s N B) {x y : Rat} (hx : ab x B) (hy : ab y B) (hxy : x ≤ y) : N x ≤ N y := by
  obtain ⟨d, hd, l⟩ := h.lc
  refine grid (R := fun x y => N x ≤ N y) hd (fun _ _ => Int.le_refl _) (fun x y z _ _ _ _ _ h1 h2 => Int.le_trans h1 h2) (fun x y hx hy hxy hl => ?_) x y hx hy hxy
  rcases l x y hx hy hxy hl with h | h <;> (show N x ≤ N y) <;> omega
theorem rct.par (h : rct q s N B) {x y : Rat} (hx : ab x B) (hy : ab y B) (hxy : x ≤ y) : ((N y - N x) % 2 = 0 → s y = s x) ∧ ((N y - N x) % 2 = 1 → s y = - s x) := by
  obtain ⟨d, hd, l⟩ := h.lc
  refine grid (R := fun x y => ((N y - N x) % 2 = 0 → s y = s x) ∧ ((N y - N x) % 2 = 1 → s y = - s x)) hd (fun x _ => by constructor <;> intro h <;> omega) (fun x y z _ _ _ _ _ h1 h2 => ?_) (fun x y hx hy hxy hl => ?_) x y hx hy hxy
  · show ((N z - N x) % 2 = 0 → s z = s x) ∧ ((N z - N x) % 2 = 1 → s z = - s x)
    have e1 : (N y - N x) % 2 = 0 ∨ (N y - N x) % 2 = 1 := by omega
    have e2 : (N z - N y) % 2 = 0 ∨ (N z - N y) % 2 = 1 := by omega
    rcases e1 with e1 | e1 <;> rcases e2 with e2 | e2
    · have := h1.1 e1; have := h2.1 e2; constructor <;> intro h <;> omega
    · have := h1.1 e1; have := h2.2 e2; constructor <;> intro h <;> omega
    · have := h1.2 e1; have := h2.1 e2; constructor <;> intro h <;> omega
    · have := h1.2 e1; have := h2.2 e2; constructor <;> intro h <;> omega
  · rcases l x y hx hy hxy hl with h | h <;> constructor <;> intro h' <;> omega
theorem rct.ivt (h : rct q s N B) {x y : Rat} (hx : ab x B) (hy : ab y B) (hxy : x ≤ y) : ∀ v, N x ≤ v → v ≤ N y → ∃ z, x ≤ z ∧ z ≤ y ∧ N z = v := by
  obtain ⟨d, hd, l⟩ := h.lc
  refine grid (R := fun x y => ∀ v, N x ≤ v → v ≤ N y → ∃ z, x ≤ z ∧ z ≤ y ∧ N z = v) hd (fun x _ v h1 h2 => ⟨x, Rat.le_refl, Rat.le_refl, by omega⟩) (fun x y z _ _ _ hxy hyz h1 h2 v v1 v2 => ?_) (fun x y hx hy hxy hl v v1 v2 => ?_) x y hx hy hxy
  · by_cases hv : v ≤ N y
    · obtain ⟨w, a, b, c⟩ := h1 v v1 hv
      exact ⟨w, a, by grind, c⟩
    · obtain ⟨w, a, b, c⟩ := h2 v (by omega) v2
      exact ⟨w, by grind, b, c⟩
  · by_cases hv : v = N x
    · exact ⟨x, Rat.le_refl, by grind, hv.symm⟩
    · refine ⟨y, by grind, Rat.le_refl, ?_⟩
      rcases l x y hx hy hxy hl with h | h <;> omega
/-- below a root, near by -/
theorem rct.left0 (h : rct q s N B) : ∃ d : Rat, 0 < d ∧ ∀ x y, ab x B → ab y B → x < y → y - x < d → q y = 0 → N x = N y - 1 ∧ q x ≠ 0 := by
  obtain ⟨d, hd, l⟩ := h.lc
  refine ⟨d, hd, fun x y hx hy hxy hl h0 => ?_⟩
  rcases l x y hx hy hxy hl with h | h
  · exact absurd h0 h.2.2
  · exact ⟨by omega, h.2.2⟩
theorem rct.zero (h : rct q s N B) {x y : Rat} (hx : ab x B) (hy : ab y B) (hxy : x < y) (h0 : q y = 0) : N x < N y := by
  obtain ⟨d, hd, l⟩ := h.left0
  by_cases hs : y - x < d
  · have := l x y hx hy hxy hs h0; omega
  · have hz : ab (y - d / 2) B := ab_mid hx hy (by grind) (by grind)
    have h1 := l (y - d / 2) y hz hy (by grind) (by grind) h0
    have h2 := h.mono hx hz (by grind)
    omega
/-- just above any place -/
theorem rct.right (h : rct q s N B) (ql : lp q) {x : Rat} (hx : ab x B) : ∃ d : Rat, 0 < d ∧ ∀ y, ab y B → x < y → y - x < d → N y = N x ∧ s y = s x ∧ q y ≠ 0 := by
  obtain ⟨d, hd, l⟩ := h.lc
  by_cases h0 : q x = 0
  · refine ⟨d, hd, fun y hy hxy hl => ?_⟩
    rcases l x y hx hy hxy hl with h | h
    · exact h
    · exact absurd h0 h.2.2
  · obtain ⟨M, hM, m1, m2⟩ := ql B
    obtain ⟨e, he, e1⟩ : ∃ e : Rat, 0 < e ∧ (e ≤ q x ∨ q x ≤ -e) := by
      by_cases hp : 0 < q x
      · exact ⟨q x, hp, Or.inl Rat.le_refl⟩
      · exact ⟨-q x, by grind, Or.inr (by grind)⟩
    have hd2 : 0 < e / M := by rw [Rat.div_def]; exact Rat.mul_pos he (Rat.inv_pos.2 hM)
    obtain ⟨d', hd', c1, c2⟩ := min_pos hd hd2
    refine ⟨d', hd', fun y hy hxy hl => ?_⟩
    have hl2 : M * (y - x) < e := by
      have h4 := Rat.mul_lt_mul_of_pos_left (Std.lt_of_lt_of_le hl c2) hM
      have h5 : M * (e / M) = e := by clear h4 c2 hd2; grind
      rw [h5] at h4; exact h4
    have h6 := m2 x y hx hy (by clear c2 hd2; grind)
    have hq : sgr (q y) = sgr (q x) ∧ q y ≠ 0 := by
      clear c2 hd2 l m1 m2
      unfold ab at h6
      rcases sgr_r (q x) with g | g | g <;> rcases sgr_r (q y) with g' | g' | g' <;> grind
    rcases l x y hx hy hxy (Std.lt_of_lt_of_le hl c1) with h' | h'
    · exact h'
    · exfalso
      have s1 := h.sq x hx h0
      have s2 := h.sq y hy hq.2
      have s3 := h.s1 x hx
      omega
/-- just below a place that is no root -/
theorem rct.left (h : rct q s N B) (ql : lp q) {x : Rat} (hx : ab x B) (h0 : q x ≠ 0) : ∃ d : Rat, 0 < d ∧ ∀ y, ab y B → y < x → x - y < d → N y = N x ∧ s y = s x ∧ q y ≠ 0 := by
  obtain ⟨d, hd, l⟩ := h.lc
  obtain ⟨M, hM, m1, m2⟩ := ql B
  obtain ⟨e, he, e1⟩ : ∃ e : Rat, 0 < e ∧ (e ≤ q x ∨ q x ≤ -e) := by
    by_cases hp : 0 < q x
    · exact ⟨q x, hp, Or.inl Rat.le_refl⟩
    · exact ⟨-q x, by grind, Or.inr (by grind)⟩
  have hd2 : 0 < e / M := by rw [Rat.div_def]; exact Rat.mul_pos he (Rat.inv_pos.2 hM)
  obtain ⟨d', hd', c1, c2⟩ := min_pos hd hd2
  refine ⟨d', hd', fun y hy hxy hl => ?_⟩
  have hl2 : M * (x - y) < e := by
    have h4 := Rat.mul_lt_mul_of_pos_left (Std.lt_of_lt_of_le hl c2) hM
    have h5 : M * (e / M) = e := by clear h4 c2 hd2; grind
    rw [h5] at h4; exact h4
  have h6 := m2 y x hy hx (by clear c2 hd2; grind)
  have hq : sgr (q y) = sgr (q x) ∧ q y ≠ 0 := by
    clear c2 hd2 l m1 m2
    unfold ab at h6
    rcases sgr_r (q x) with g | g | g <;> rcases sgr_r (q y) with g' | g' | g' <;> grind
  rcases l y x hy hx hxy (Std.lt_of_lt_of_le hl c1) with h' | h'
  · exact ⟨by omega, by omega, hq.2⟩
  · exfalso
    have s1 := h.sq x hx h0
    have s2 := h.sq y hy hq.2
    have s3 := h.s1 x hx
    omega
/-- between x and y (both left out) q has one sign: no root there -/
theorem rct.none (h : rct q s N B) (ql : lp q) {x y : Rat} (hx : ab x B) (hy : ab y B) {σ : Int} (hq : ∀ t, x < t → t < y → sgr (q t) = σ) (hσ : σ ≠ 0) : ∀ t, x ≤ t → t < y → N t = N x := by
  intro t h1 h2
  by_cases he : x = t
  · rw [he]
  have ht := ab_mid hx hy h1 (by grind)
  obtain ⟨d, hd, r⟩ := h.right ql hx
  -- a place z between x and t
  have hz : ∃ z, x < z ∧ z < t ∧ z - x < d := by
    by_cases hc : (t - x) / 2 < d / 2
    · exact ⟨x + (t - x) / 2, by grind, by grind, by grind⟩
    · exact ⟨x + d / 2, by grind, by grind, by grind⟩
  obtain ⟨z, z1, z2, z3⟩ := hz
  have hzB := ab_mid hx ht (show x ≤ z by grind) (show z ≤ t by grind)
  obtain ⟨r1, r2, r3⟩ := r z hzB z1 z3
  have m1 := h.mono hx ht h1
  by_cases hN : N t = N x
  · exact hN
  · exfalso
    obtain ⟨w, w1, w2, w3⟩ := h.ivt hzB ht (by grind) (N x + 1) (by omega) (by omega)
    have hw := ab_mid hzB ht w1 w2
    have p := (h.par hzB hw w1).2 (by omega)
    have q1 := hq z z1 (by grind)
    have q2 := hq w (by grind) (by grind)
    have n1 : q w ≠ 0 := fun h0 => by rw [h0] at q2; apply hσ; rw [← q2]; rfl
    have s1 := h.sq z hzB r3
    have s2 := h.sq w hw n1
    omega
end
