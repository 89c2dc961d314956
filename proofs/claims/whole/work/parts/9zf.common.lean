/-! COMMON ROOTS -/
/-- a factor of P is not large -/
theorem fac_l1 {P Q D : Nat → Int} {n m : Nat} (hmn : m ≤ n) (hQz : ∀ c, m < c → Q c = 0) (hDn : D (n - m) ≠ 0) (he : ∀ x, ev P (n + 1) x = ev D (n - m + 1) x * ev Q (m + 1) x) (hn : n ≤ 8) (hP : ∀ k, (P k).natAbs ≤ 2147483648) (hz : ∀ c, n < c → P c = 0) : l1 Q (m + 1) ≤ 2 ^ fbm m := by
  have hco : ∀ c, c < 10 → P c = qs D Q (n - m + 1) c := by
    intro c hc
    refine ev_inj (n := 10) (fun x => ?_) c hc
    rw [ev_qs (v := Q) (m := m + 1) (fun k hk => hQz k (by omega)) D x 10 (n - m + 1) (by omega), ← he x]
    exact ev_pad (by omega) (fun k h1 h2 => hz k (by omega)) x
  have hdv : ∀ x : Int, dv x P 9 = dv x Q (m + 1) * dv x D (n - m + 1) := fun x => by
    have h4 : ((dv x P 9 : Int) : Rat) = ((dv x Q (m + 1) * dv x D (n - m + 1) : Int) : Rat) := by
      rw [Rat.intCast_mul, dv_ev, dv_ev, dv_ev, Rat.mul_comm, ← he, ev_pad (show n + 1 ≤ 9 by omega) (fun k a b => hz k (by omega))]
    exact Rat.intCast_inj.1 h4
  rcases Nat.lt_or_ge m n with h1 | h1
  · rcases Nat.lt_or_ge m 6 with h2 | h2
    · have h3 := fac_bd (P := P) (q := Q) (g := D) (n := m + 1) (m := n - m + 1) (fun k _ => hP k) hdv (by omega) ⟨n - m, by omega, hDn⟩ (by omega)
      rw [show fbm m = 52 by unfold fbm; rw [if_neg (by omega), if_neg (by omega), if_neg (by omega)]]
      exact h3
    · by_cases hq : n = 8 ∧ m = 6
      · obtain ⟨rfl, rfl⟩ := hq
        refine quad_fac (P := P) (Q := Q) (D := D) hP (fun k hk => hQz k (by omega)) hDn ?_ ?_ (fun k => ?_) hdv
        · rw [hco 0 (by omega)]; simp [qs, shP]
        · rw [hco 1 (by omega)]; simp [qs, shP]
        · rcases Nat.lt_or_ge (k + 2) 10 with h4 | h4
          · rw [hco _ h4]
            simp only [qs, shP]
            rw [if_neg (by omega), if_neg (by omega), if_neg (by omega)]
            simp
          · rw [hz _ (by omega), hQz _ (by omega), hQz _ (by omega), hQz _ (by omega)]
            simp
      · have hnm : n - m = 1 := by omega
        rw [hnm] at hco hDn
        have h3 := lin_fac (P := P) (Q := Q) (a := D 1) (b := D 0) (H := 2147483648) (fun k => ?_) ?_ (hQz 8 (by omega)) hP (Or.inl hDn)
        · have h5 := l1_mono Q (show m + 1 ≤ 8 by omega)
          have h6 : 2 ^ 37 ≤ 2 ^ fbm m := Nat.pow_le_pow_right (by omega) (by unfold fbm; rw [if_neg (by omega)]; split; omega; split <;> omega)
          have : (2 : Nat) ^ 37 = 137438953472 := by decide
          omega
        · rcases Nat.lt_or_ge (k + 1) 10 with h4 | h4
          · rw [hco _ h4]
            simp only [qs, shP]
            rw [if_neg (by omega), if_neg (by omega)]
            simp
          · rw [hz _ (by omega), hQz _ (by omega), hQz _ (by omega)]
            simp
        · rw [hco 0 (by omega)]
          simp [qs, shP]
  · obtain rfl : m = n := by omega
    have h2 : ∀ c, c < m + 1 → (Q c).natAbs ≤ 2147483648 := by
      intro c hc
      have h3 := hco c (by omega)
      rw [Nat.sub_self] at h3 hDn
      simp only [qs, shP] at h3
      rw [if_neg (by omega), Nat.sub_zero, Int.zero_add] at h3
      have h4 := hP c
      rw [h3, Int.natAbs_mul] at h4
      exact Nat.le_trans (Nat.le_mul_of_pos_left _ (by omega)) h4
    have h5 := l1_le h2
    have h6 : 2 ^ 35 ≤ 2 ^ fbm m := Nat.pow_le_pow_right (by omega) (fbm_r m).1
    have : (2 : Nat) ^ 35 = 34359738368 := by decide
    have h7 : (m + 1) * 2147483648 ≤ 9 * 2147483648 := Nat.mul_le_mul_right _ (by omega)
    omega

/-- how many of the first k roots of q are roots of g -/
noncomputable def nvz (q : Rat → Rat) (N : Rat → Int) (g : Rat → Rat) : Nat → Int
  | 0 => 0
  | k + 1 => nvz q N g k + @ite _ (vz (rb q N B0 (k : Int)) g) (Classical.propDecidable _) 1 0
theorem nvz_y {q : Rat → Rat} {N : Rat → Int} {g : Rat → Rat} {k : Nat} (h : vz (rb q N B0 (k : Int)) g) : nvz q N g (k + 1) = nvz q N g k + 1 := by
  show nvz q N g k + @ite _ (vz (rb q N B0 (k : Int)) g) (Classical.propDecidable _) 1 0 = _
  rw [if_pos h]
theorem nvz_n {q : Rat → Rat} {N : Rat → Int} {g : Rat → Rat} {k : Nat} (h : ¬ vz (rb q N B0 (k : Int)) g) : nvz q N g (k + 1) = nvz q N g k := by
  show nvz q N g k + @ite _ (vz (rb q N B0 (k : Int)) g) (Classical.propDecidable _) 1 0 = _
  rw [if_neg h, Int.add_zero]
theorem nvz_congr {q : Rat → Rat} {N : Rat → Int} {g f : Rat → Rat} : ∀ {k : Nat}, (∀ i, i < k → (vz (rb q N B0 (i : Int)) g ↔ vz (rb q N B0 (i : Int)) f)) → nvz q N g k = nvz q N f k
  | 0, _ => rfl
  | k + 1, h => by
    have h1 := nvz_congr (k := k) (fun i hi => h i (by omega))
    by_cases h2 : vz (rb q N B0 (k : Int)) g
    · rw [nvz_y h2, nvz_y ((h k (by omega)).1 h2), h1]
    · rw [nvz_n h2, nvz_n (fun h3 => h2 ((h k (by omega)).2 h3)), h1]
theorem nvz_0 {q : Rat → Rat} {N : Rat → Int} {g : Rat → Rat} : ∀ {k : Nat}, (∀ i, i < k → ¬ vz (rb q N B0 (i : Int)) g) → nvz q N g k = 0
  | 0, _ => rfl
  | k + 1, h => by rw [nvz_n (h k (by omega)), nvz_0 (fun i hi => h i (by omega))]
section
variable {q D k U W : Rat → Rat} {s N sD ND : Rat → Int} {c cD : Int}
/-- a factor's roots are among q's -/
theorem fac_le (hs : rsx q s N c) (hD : rsx D sD ND cD) (lk : lp k) (lU : lp U) (lW : lp W) (e : ∀ x, q x = D x * k x) (bz : ∀ x, U x * D x + W x * k x = 1) {x y : Rat} (hxy : x < y) (qx : q x ≠ 0) (qy : q y ≠ 0) : ND y - ND x ≤ N y - N x := by
  obtain ⟨B, -, bx, bY⟩ := ab_two x y
  obtain ⟨d1, d10, h1⟩ := (hs.2.1 B).fac hD.1 lk lU lW e bz
  obtain ⟨d2, d20, h2⟩ := (hD.2.1 B).step
  obtain ⟨dd, dd0, dd1, dd2⟩ := min_pos d10 d20
  have nD : ∀ t, q t ≠ 0 → D t ≠ 0 := fun t ht h0 => ht (by rw [e, h0]; grind)
  refine (hs.2.1 B).grid0 hs.1 dd0 (R := fun x y => ND y - ND x ≤ N y - N x) (fun x y z _ _ _ _ _ _ _ _ a b => by omega) (fun x y bx bY hxy hcl qx qy => ?_) x y bx bY hxy qx qy
  have k1 := h1 x y bx bY hxy (by grind) qx qy
  have k2 := h2 x y bx bY hxy (by grind) (nD x qx) (nD y qy)
  rcases k1 with ⟨a1, a2, a3⟩ | ⟨a1, a2, a3⟩ | ⟨a1, a2, a3⟩
  · have := k2.1 a2; omega
  · have := k2.2 a2; omega
  · have := k2.1 a2; omega
/-- how many roots a factor has -/
theorem cnt_D (hs : rsx q s N c) (hD : rsx D sD ND cD) (lk : lp k) (lU : lp U) (lW : lp W) (e : ∀ x, q x = D x * k x) (bz : ∀ x, U x * D x + W x * k x = 1) {lo hi : Rat} (bl : ab lo 8589934592) (bh : ab hi 8589934592) (hlh : lo < hi) (n0 : N lo = 0) (n1 : N hi = c) : cD = nvz q N D c.toNat := by
  have hr := hs.rts
  have hrD := hD.rts
  have hc0 : 0 ≤ c := by have := hs.mono (x := lo) (y := hi) (by grind); omega
  have bl0 : ab lo B0 := bl.le (by unfold B0; grind)
  have bh0 : ab hi B0 := bh.le (by unfold B0; grind)
  have nD : ∀ t, q t ≠ 0 → D t ≠ 0 := fun t ht h0 => ht (by rw [e, h0]; grind)
  have sepk : ∀ v : Nat, (v : Int) ≤ c → ∃ x, N x = v ∧ q x ≠ 0 ∧ ab x B0 := by
    intro v hv
    obtain ⟨x, x1, x2, x3⟩ := (hs.2.1 B0).ivt bl0 bh0 (by grind) (v : Int) (by omega) (by omega)
    obtain ⟨d, d0, hd⟩ := hs.rlim x
    obtain ⟨dd, dd0, dd1, dd2⟩ := min_pos d0 (show (0 : Rat) < 1 by grind)
    have h1 := hd (x + dd / 2) (by grind) (by grind)
    exact ⟨x + dd / 2, by rw [h1.1]; exact x3, h1.2, by unfold ab B0 at *; grind⟩
  have far0 : ∀ x, q x ≠ 0 → N x = 0 → ND x = 0 := by
    intro x qx hx
    obtain ⟨H, H0, hH⟩ := hs.2.2
    obtain ⟨H', H0', hH'⟩ := hD.2.2
    obtain ⟨b, b0, hb⟩ := ab.self x
    have w1 := (hH (-(H + H' + b + 1))).1 (by grind)
    have w2 := (hH' (-(H + H' + b + 1))).1 (by grind)
    have := fac_le hs hD lk lU lW e bz (x := -(H + H' + b + 1)) (y := x) (by unfold ab at hb; grind) w1.2 qx
    have := (hrD.2.2 x).1
    have := (nm_N D ND x).1
    omega
  have main : ∀ v : Nat, (v : Int) ≤ c → ∀ x, N x = v → q x ≠ 0 → ab x B0 → ND x = nvz q N D v := by
    intro v
    induction v with
    | zero => intro _ x hx qx _; exact far0 x qx hx
    | succ v ih =>
      intro hv x hx qx bx
      obtain ⟨y, y1, y2, y3⟩ := sepk v (by omega)
      have hyx : y < x := by
        rcases Rat.le_total (a := x) (b := y) with h9 | h9
        · have := hs.mono h9; omega
        · refine Rat.lt_of_le_of_ne h9 (fun h8 => ?_)
          rw [h8] at y1; omega
      have iy := ih (by omega) y y1 y2 y3
      have hle := fac_le hs hD lk lU lW e bz hyx y2 qx
      have hmo := hD.mono (x := y) (y := x) (by grind)
      have hpar := hD.par (x := y) (y := x) (by grind) (nD y y2) (nD x qx)
      rcases ((hs.2.1 B0).fac1 hs.1 hD.1 lk lU lW e bz y x y3 bx hyx y2 qx).2 (by omega) with ⟨a1, a2⟩ | ⟨a1, a2⟩
      · have hvz := (hs.2.1 B0).facz hs.1 hD.1 lk lU lW e bz y3 bx y1 (show N x = (v : Int) + 1 by omega) y2 qx a1
        rw [nvz_y hvz]
        have o := sgr_opp a1
        have z := sgr_ne.2 (nD x qx)
        rcases (show ND x = ND y ∨ ND x = ND y + 1 by omega) with h9 | h9
        · have := hpar.1 h9; omega
        · omega
      · have hnz := (hs.2.1 B0).facn hs.1 hD.1 lk lU lW e bz y3 bx y1 (show N x = (v : Int) + 1 by omega) y2 qx a1
        have hpl : pla (rb q N B0 (v : Int)) := (hs.2.1 B0).pla hs.1 (lo := y) (hi := x) ⟨y3, bx, hyx, by omega, by omega, fun h9 => absurd h9 qx⟩
        rw [nvz_n (hnz.not hpl)]
        have z := a1.sg
        have z2 := sgr_ne.2 (nD x qx)
        rcases (show ND x = ND y ∨ ND x = ND y + 1 by omega) with h9 | h9
        · omega
        · have := hpar.2 h9; omega
  obtain ⟨x, x1, x2, x3⟩ := sepk c.toNat (by omega)
  have h1 := main c.toNat (by omega) x x1 x2 x3
  rw [← h1]
  obtain ⟨H, H0, hH⟩ := hs.2.2
  obtain ⟨H', H0', hH'⟩ := hD.2.2
  obtain ⟨b, b0, hb⟩ := ab.self x
  have w1 := (hH (H + H' + b + 1)).2 (by grind)
  have w2 := (hH' (H + H' + b + 1)).2 (by grind)
  have := fac_le hs hD lk lU lW e bz (x := x) (y := H + H' + b + 1) (by unfold ab at hb; grind) x2 w1.2
  have := (hrD.2.2 x).2
  omega
end
