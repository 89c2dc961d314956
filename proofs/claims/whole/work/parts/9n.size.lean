/-! SIZES: of the part without repeated factors; the good chain, and that its values fit -/
def fbm (m : Nat) : Nat := if m = 8 then 35 else if m = 7 then 37 else if m = 6 then 45 else 52
theorem fbm_r (m : Nat) : 35 ≤ fbm m ∧ fbm m ≤ 52 := by
  unfold fbm
  split
  · omega
  · split
    · omega
    · split <;> omega
theorem nmul_le {a x y : Nat} (ha : 0 < a) (h : a * x ≤ a * y) : x ≤ y := Nat.le_of_mul_le_mul_left h ha
theorem lin_1 {p b x a y : Int} (h : p = b * x + a * y) : b.natAbs * x.natAbs ≤ p.natAbs + a.natAbs * y.natAbs := by
  have h1 : b * x = p - a * y := by omega
  have h2 : (b * x).natAbs ≤ p.natAbs + (a * y).natAbs := by rw [h1]; omega
  rw [Int.natAbs_mul, Int.natAbs_mul] at h2
  exact h2
theorem lin_2 {A B H x y j : Nat} (hB : 0 < B) (hAB : A ≤ B) (h : B * x ≤ H + A * y) (hy : y ≤ j * H) : x ≤ (j + 1) * H := by
  refine nmul_le hB (Nat.le_trans h ?_)
  have h1 : A * y ≤ B * (j * H) := Nat.mul_le_mul hAB hy
  have h2 : H ≤ B * H := Nat.le_mul_of_pos_left H hB
  rw [Nat.add_mul, Nat.one_mul, Nat.mul_add]
  omega
/-- a factor beside a linear one: its coefficients -/
theorem lin_co {P Q : Nat → Int} {a b : Int} {H : Nat} (h : ∀ k, P (k + 1) = b * Q (k + 1) + a * Q k) (h0 : P 0 = b * Q 0) (hQ : Q 8 = 0) (hP : ∀ k, (P k).natAbs ≤ H) (hab : a ≠ 0 ∨ b ≠ 0) : (∀ j, j ≤ 8 → (Q j).natAbs ≤ (j + 1) * H) ∨ ∀ t, t ≤ 8 → (Q (8 - t)).natAbs ≤ t * H := by
  rcases Nat.lt_or_ge a.natAbs b.natAbs with h1 | h1
  · left
    intro j
    induction j with
    | zero =>
      intro _
      have := lin_1 (show P 0 = b * Q 0 + a * 0 by omega)
      have e : (0 : Int).natAbs = 0 := rfl
      rw [e, Nat.mul_zero] at this
      exact lin_2 (A := 0) (y := 0) (j := 0) (B := b.natAbs) (by omega) (by omega) (by have := hP 0; omega) (by omega)
    | succ j ih =>
      intro hj
      exact lin_2 (B := b.natAbs) (A := a.natAbs) (by omega) (by omega) (Nat.le_trans (lin_1 (h j)) (Nat.add_le_add_right (hP _) _)) (ih (by omega))
  · right
    intro t
    induction t with
    | zero => intro _; rw [Nat.sub_zero, hQ]; omega
    | succ t ih =>
      intro ht
      have h2 := h (8 - (t + 1))
      rw [show 8 - (t + 1) + 1 = 8 - t by omega, Int.add_comm] at h2
      exact lin_2 (B := a.natAbs) (A := b.natAbs) (by omega) h1 (Nat.le_trans (lin_1 h2) (Nat.add_le_add_right (hP _) _)) (ih (by omega))
theorem lin_c8 {P Q : Nat → Int} {a b : Int} {H : Nat} (h : ∀ k, P (k + 1) = b * Q (k + 1) + a * Q k) (h0 : P 0 = b * Q 0) (hQ : ∀ k, 8 ≤ k → Q k = 0) (hP : ∀ k, (P k).natAbs ≤ H) (hab : a ≠ 0 ∨ b ≠ 0) (k : Nat) : (Q k).natAbs ≤ 8 * H := by
  rcases Nat.lt_or_ge k 8 with hk | hk
  · rcases lin_co h h0 (hQ 8 (by omega)) hP hab with h1 | h1
    · exact Nat.le_trans (h1 k (by omega)) (Nat.mul_le_mul_right _ (by omega))
    · have h2 := h1 (8 - k) (by omega)
      rw [show 8 - (8 - k) = k by omega] at h2
      exact Nat.le_trans h2 (Nat.mul_le_mul_right _ (by omega))
  · rw [hQ k hk]; simp
theorem lin_fac {P Q : Nat → Int} {a b : Int} {H : Nat} (h : ∀ k, P (k + 1) = b * Q (k + 1) + a * Q k) (h0 : P 0 = b * Q 0) (hQ : Q 8 = 0) (hP : ∀ k, (P k).natAbs ≤ H) (hab : a ≠ 0 ∨ b ≠ 0) : l1 Q 8 ≤ 36 * H := by
  rcases lin_co h h0 hQ hP hab with key | key
  · have k0 := key 0 (by omega)
    have k1 := key 1 (by omega)
    have k2 := key 2 (by omega)
    have k3 := key 3 (by omega)
    have k4 := key 4 (by omega)
    have k5 := key 5 (by omega)
    have k6 := key 6 (by omega)
    have k7 := key 7 (by omega)
    simp only [l1]
    omega
  · have k0 : (Q 7).natAbs ≤ 1 * H := key 1 (by omega)
    have k1 : (Q 6).natAbs ≤ 2 * H := key 2 (by omega)
    have k2 : (Q 5).natAbs ≤ 3 * H := key 3 (by omega)
    have k3 : (Q 4).natAbs ≤ 4 * H := key 4 (by omega)
    have k4 : (Q 3).natAbs ≤ 5 * H := key 5 (by omega)
    have k5 : (Q 2).natAbs ≤ 6 * H := key 6 (by omega)
    have k6 : (Q 1).natAbs ≤ 7 * H := key 7 (by omega)
    have k7 : (Q 0).natAbs ≤ 8 * H := key 8 (by omega)
    simp only [l1]
    omega
/-- beside a factor of degree 2 -/
theorem fb7 : fb 7 ([0, -1, 1, -2, 2, -3, 3].map (fun x => (x, pmx x))) ≤ 2 ^ 45 := by decide +kernel
theorem quad_fac {P Q D : Nat → Int} (hP : ∀ k, (P k).natAbs ≤ 2147483648) (hQ : ∀ k, 7 ≤ k → Q k = 0) (hD : D 2 ≠ 0) (h0 : P 0 = D 0 * Q 0) (h1 : P 1 = D 0 * Q 1 + D 1 * Q 0) (h2 : ∀ k, P (k + 2) = D 0 * Q (k + 2) + D 1 * Q (k + 1) + D 2 * Q k) (hv : ∀ x : Int, dv x P 9 = dv x Q 7 * dv x D 3) : l1 Q 7 ≤ 2 ^ 45 := by
  by_cases hr : ∃ r : Int, dv r D 3 = 0
  · obtain ⟨r, hr⟩ := hr
    have hd0 : D 0 = -r * (D 1 + D 2 * r) := by
      simp only [dv] at hr
      have e : r ^ 2 = r * r := by rw [Int.pow_succ, Int.pow_succ, Int.pow_zero, Int.one_mul]
      have e1 : r ^ 1 = r := by rw [Int.pow_succ, Int.pow_zero, Int.one_mul]
      rw [e, e1, Int.pow_zero] at hr
      grind
    have q1 := lin_c8 (P := P) (Q := fun c => (D 1 + D 2 * r) * Q c + D 2 * (if c = 0 then 0 else Q (c - 1))) (a := 1) (b := -r) (H := 2147483648) (fun k => by
      rcases k with _ | k
      · show P 1 = -r * ((D 1 + D 2 * r) * Q 1 + D 2 * (if (1 : Nat) = 0 then 0 else Q (1 - 1))) + 1 * ((D 1 + D 2 * r) * Q 0 + D 2 * (if (0 : Nat) = 0 then 0 else Q (0 - 1)))
        rw [if_neg (by omega), if_pos rfl, h1, hd0, show (1 : Nat) - 1 = 0 from rfl]
        grind
      · show P (k + 2) = -r * ((D 1 + D 2 * r) * Q (k + 2) + D 2 * (if k + 2 = 0 then 0 else Q (k + 2 - 1))) + 1 * ((D 1 + D 2 * r) * Q (k + 1) + D 2 * (if k + 1 = 0 then 0 else Q (k + 1 - 1)))
        rw [if_neg (by omega), if_neg (by omega), h2, hd0, show k + 2 - 1 = k + 1 by omega, show k + 1 - 1 = k by omega]
        grind) (by
      show P 0 = -r * ((D 1 + D 2 * r) * Q 0 + D 2 * (if (0 : Nat) = 0 then 0 else Q (0 - 1)))
      rw [if_pos rfl, h0, hd0]
      grind) (fun k hk => by
      show (D 1 + D 2 * r) * Q k + D 2 * (if k = 0 then 0 else Q (k - 1)) = 0
      rw [if_neg (by omega), hQ k (by omega), hQ (k - 1) (by omega)]; simp) hP (Or.inl (by decide))
    have q2 := lin_fac (P := fun c => (D 1 + D 2 * r) * Q c + D 2 * (if c = 0 then 0 else Q (c - 1))) (Q := Q) (a := D 2) (b := D 1 + D 2 * r) (H := 8 * 2147483648) (fun k => by
      show (D 1 + D 2 * r) * Q (k + 1) + D 2 * (if k + 1 = 0 then 0 else Q (k + 1 - 1)) = _
      rw [if_neg (by omega), Nat.add_sub_cancel]) (by
      show (D 1 + D 2 * r) * Q 0 + D 2 * (if (0 : Nat) = 0 then 0 else Q (0 - 1)) = _
      rw [if_pos rfl, Int.mul_zero, Int.add_zero]) (hQ 8 (by omega)) q1 (Or.inl hD)
    have q3 := l1_mono Q (show 7 ≤ 8 by omega)
    have : (2 : Nat) ^ 45 = 35184372088832 := by decide
    omega
  · refine Nat.le_trans (fb_ok 7 Q ([0, -1, 1, -2, 2, -3, 3].map (fun x => (x, pmx x))) rfl (by decide) (fun p hp => ?_)) fb7
    obtain ⟨x, hx, rfl⟩ := List.mem_map.1 hp
    have hgx : dv x D 3 ≠ 0 := fun h => hr ⟨x, h⟩
    have h3 := dv_hs (x := x) (H := 2147483648) (n := 9) (q := P) (fun k _ => hP k)
    rw [← pmx_hs, hv, Int.natAbs_mul] at h3
    show (dv x Q 7).natAbs ≤ pmx x
    exact Nat.le_trans (Nat.le_mul_of_pos_right _ (by omega)) h3
theorem l1_le {r : Nat → Int} {H : Nat} : ∀ {n : Nat}, (∀ k, k < n → (r k).natAbs ≤ H) → l1 r n ≤ n * H
  | 0, _ => by simp [l1]
  | n + 1, h => by
    have h1 := l1_le (n := n) (fun k hk => h k (by omega))
    have h2 := h n (by omega)
    rw [Nat.add_mul, Nat.one_mul]
    simp only [l1]
    omega
theorem dv_ev (x : Int) (q : Nat → Int) : ∀ n, ((dv x q n : Int) : Rat) = ev q n x
  | 0 => rfl
  | n + 1 => by
    simp only [dv, ev]
    rw [Rat.intCast_add, Rat.intCast_mul, Rat.intCast_pow, dv_ev x q n]
/-- the part without repeated factors is not large -/
theorem fcp_l1 {P Q : Nat → Int} {n m : Nat} (h : fcp P n Q m) (hn : n ≤ 8) (hP : ∀ k, (P k).natAbs ≤ 2147483648) (hz : ∀ c, n < c → P c = 0) : l1 Q (m + 1) ≤ 2 ^ fbm m := by
  obtain ⟨hmn, hQz, hQm, D, hDz, hDn, he, -⟩ := h
  have hco : ∀ c, c < 10 → P c = qs D Q (n - m + 1) c := by
    intro c hc
    refine ev_inj (n := 10) (fun x => ?_) c hc
    rw [ev_qs (v := Q) (m := m + 1) (fun k hk => hQz k (by omega)) D x 10 (n - m + 1) (by omega), ← he x]
    exact ev_pad (by omega) (fun k h1 h2 => hz k (by omega)) x
  have hdv : ∀ x : Int, dv x P 9 = dv x Q (m + 1) * dv x D (n - m + 1) := fun x => by
    have h4 : ((dv x P 9 : Int) : Rat) = ((dv x Q (m + 1) * dv x D (n - m + 1) : Int) : Rat) := by
      rw [Rat.intCast_mul, dv_ev, dv_ev, dv_ev, Rat.mul_comm, ← he, ev_pad (show n + 1 ≤ 9 by omega) (fun k a b => hz k (by omega))]
    exact Rat.intCast_inj.1 h4
  rcases Nat.lt_or_ge m n with h1 | h1
  · rcases Nat.lt_or_ge m 6 with h2 | h2
    · have h3 := fac_bd (P := P) (q := Q) (g := D) (n := m + 1) (m := n - m + 1) (fun k _ => hP k) hdv (by omega) ⟨n - m, by omega, hDn⟩ (by omega)
      rw [show fbm m = 52 by unfold fbm; rw [if_neg (by omega), if_neg (by omega), if_neg (by omega)]]
      exact h3
    · by_cases hq : n = 8 ∧ m = 6
      · obtain ⟨rfl, rfl⟩ := hq
        refine quad_fac (P := P) (Q := Q) (D := D) hP (fun k hk => hQz k (by omega)) hDn ?_ ?_ (fun k => ?_) hdv
        · rw [hco 0 (by omega)]; simp [qs, shP]
        · rw [hco 1 (by omega)]; simp [qs, shP]
        · rcases Nat.lt_or_ge (k + 2) 10 with h4 | h4
          · rw [hco _ h4]
            simp only [qs, shP]
            rw [if_neg (by omega), if_neg (by omega), if_neg (by omega)]
            simp
          · rw [hz _ (by omega), hQz _ (by omega), hQz _ (by omega), hQz _ (by omega)]
            simp
      · have hnm : n - m = 1 := by omega
        rw [hnm] at hco hDn
        have h3 := lin_fac (P := P) (Q := Q) (a := D 1) (b := D 0) (H := 2147483648) (fun k => ?_) ?_ (hQz 8 (by omega)) hP (Or.inl hDn)
        · have h5 := l1_mono Q (show m + 1 ≤ 8 by omega)
          have h6 : 2 ^ 37 ≤ 2 ^ fbm m := Nat.pow_le_pow_right (by omega) (by unfold fbm; rw [if_neg (by omega)]; split; omega; split <;> omega)
          have : (2 : Nat) ^ 37 = 137438953472 := by decide
          omega
        · rcases Nat.lt_or_ge (k + 1) 10 with h4 | h4
          · rw [hco _ h4]
            simp only [qs, shP]
            rw [if_neg (by omega), if_neg (by omega)]
            simp
          · rw [hz _ (by omega), hQz _ (by omega), hQz _ (by omega)]
            simp
        · rw [hco 0 (by omega)]
          simp [qs, shP]
  · obtain rfl : m = n := by omega
    have h2 : ∀ c, c < m + 1 → (Q c).natAbs ≤ 2147483648 := by
      intro c hc
      have h3 := hco c (by omega)
      rw [Nat.sub_self] at h3 hDn
      simp only [qs, shP] at h3
      rw [if_neg (by omega), Nat.sub_zero, Int.zero_add] at h3
      have h4 := hP c
      rw [h3, Int.natAbs_mul] at h4
      exact Nat.le_trans (Nat.le_mul_of_pos_left _ (by omega)) h4
    have h5 := l1_le h2
    have h6 : 2 ^ 35 ≤ 2 ^ fbm m := Nat.pow_le_pow_right (by omega) (fbm_r m).1
    have : (2 : Nat) ^ 35 = 34359738368 := by decide
    have h7 : (m + 1) * 2147483648 ≤ 9 * 2147483648 := Nat.mul_le_mul_right _ (by omega)
    omega
theorem l1_dP {Q : Nat → Int} {m : Nat} : ∀ n, n ≤ m → l1 (dP Q) n ≤ m * l1 Q (n + 1)
  | 0, _ => by simp [l1]
  | n + 1, h => by
    have h1 := l1_dP (Q := Q) n (Nat.le_of_succ_le h)
    have h2 : (dP Q n).natAbs = (n + 1) * (Q (n + 1)).natAbs := by
      unfold dP
      rw [Int.natAbs_mul]
      rfl
    have h3 : (n + 1) * (Q (n + 1)).natAbs ≤ m * (Q (n + 1)).natAbs := Nat.mul_le_mul_right _ h
    have e : l1 Q (n + 1 + 1) = l1 Q (n + 1) + (Q (n + 1)).natAbs := rfl
    rw [e, Nat.mul_add]
    have e2 : l1 (dP Q) (n + 1) = l1 (dP Q) n + (dP Q n).natAbs := rfl
    omega
theorem l1_dP8 {Q : Nat → Int} {m f : Nat} (hm : m ≤ 8) (h : l1 Q (m + 1) ≤ 2 ^ f) : l1 (dP Q) m ≤ 2 ^ (f + 3) := by
  refine Nat.le_trans (l1_dP m (Nat.le_refl _)) ?_
  rw [Nat.pow_add, Nat.mul_comm]
  exact Nat.mul_le_mul h (by omega)
set_option maxRecDepth 100000 in
theorem okc_0 : ∀ n, n < 9 → 1 ≤ n → okc 35 38 n (n - 1) := by unfold okc bt; decide +kernel
set_option maxRecDepth 100000 in
theorem okc_1 : ∀ n, n < 9 → 1 ≤ n → okc (fbm n) (fbm n + 3) n (n - 1) := by unfold okc bt fbm; decide +kernel
/-- the chain of P's part without repeated factors -/
def gch (P : Nat → Int) (n M : Nat) (F : Nat → Nat → Int) (d : Nat → Nat) : Prop := (∀ c, n < c → P c = 0) ∧ P n ≠ 0 ∧ n ≤ 8 ∧ (∀ k, (P k).natAbs ≤ 2147483648) ∧ ((n = 0 ∧ M = 0 ∧ d 0 = 0 ∧ F 0 = P) ∨ (1 ≤ n ∧ 1 ≤ M ∧ (∃ f g, f ≤ fbm (d 0) ∧ g ≤ fbm (d 0) + 3 ∧ chs F d f g M) ∧ d M = 0 ∧ (∀ c, F 1 c = dP (F 0) c) ∧ d 0 = d 1 + 1 ∧ fcp P n (F 0) (d 0)))
theorem vr_le {s : Nat → Int} : ∀ n, (vr s (n + 1)).1 ≤ n
  | 0 => by rw [vr_1st]; exact Int.le_refl _
  | n + 1 => by
    have h := vr_le (s := s) n
    rw [vr]
    split
    · omega
    · simp only
      split <;> omega
section
variable {P : Nat → Int} {n M : Nat} {F : Nat → Nat → Int} {d : Nat → Nat}
theorem gch.rs (h : gch P n M F d) : ∃ s, rsx (lk F d 0) s (cN F d M) (vlo F d M - vhi F d M) := by
  obtain ⟨h1, h2, h3, h4, h5⟩ := h
  rcases h5 with ⟨a1, a2, a3, a4⟩ | ⟨a1, a2, ⟨f, g, -, -, a3⟩, a4, a5, a6, a7⟩
  · subst a2
    exact con_rsx a3 (by rw [a4, ← a1]; exact h2)
  · exact (chs_rsx a3 a2 a4 a5 a6).1
theorem gch.zq (h : gch P n M F d) : ∀ k, k ≤ M → (∀ c, d k < c → F k c = 0) ∧ F k (d k) ≠ 0 := by
  obtain ⟨h1, h2, h3, h4, h5⟩ := h
  intro k hk
  rcases h5 with ⟨a1, a2, a3, a4⟩ | ⟨a1, a2, ⟨f, g, -, -, a3⟩, a4, a5, a6, a7⟩
  · obtain rfl : k = 0 := by omega
    rw [a4, a3]
    rw [a1] at h1 h2
    exact ⟨h1, h2⟩
  · obtain ⟨sc, ht, hc, -⟩ := a3
    exact hc.1 k hk
theorem gch.cnt (h : gch P n M F d) : 0 ≤ vlo F d M - vhi F d M ∧ vlo F d M - vhi F d M ≤ d 0 ∧ d 0 ≤ n ∧ 0 ≤ vlo F d M ∧ vlo F d M ≤ 9 ∧ M ≤ d 0 := by
  obtain ⟨s, hs⟩ := h.rs
  have hr := hs.rts.2.2 0
  have hn := (nm_N (lk F d 0) (cN F d M) 0).1
  have v1 : vlo F d M ≤ M := vr_le M
  have v2 : 0 ≤ vhi F d M := vr_mono _ _
  have v3 : 0 ≤ vlo F d M := vr_mono _ _
  have hm : M ≤ d 0 ∧ d 0 ≤ n := by
    obtain ⟨h1, h2, h3, h4, h5⟩ := h
    rcases h5 with ⟨a1, a2, a3, a4⟩ | ⟨a1, a2, ⟨f, g, -, -, a3⟩, a4, a5, a6, a7⟩
    · omega
    · obtain ⟨sc, ht, hc, -⟩ := a3
      have := cin_deg hc M a2 (Nat.le_refl _)
      exact ⟨by omega, a7.1⟩
  have := h.2.2.1
  omega
/-- how large the links are -/
theorem gch.bits (h : gch P n M F d) : (∀ c, (F 0 c).natAbs ≤ 2 ^ fbm (d 0)) ∧ ∀ k, 1 ≤ k → k ≤ M → d k < d 0 ∧ ∀ c, (F k c).natAbs ≤ 2 ^ ((d 0 - d k) * (2 * fbm (d 0) + 3)) := by
  obtain ⟨h1, h2, h3, h4, h5⟩ := h
  rcases h5 with ⟨a1, a2, a3, a4⟩ | ⟨a1, a2, ⟨f, g, hf, hg, a3⟩, a4, a5, a6, a7⟩
  · refine ⟨fun c => ?_, fun k _ _ => by omega⟩
    rw [a4]
    refine Nat.le_trans (h4 c) ?_
    rw [a3]
    decide
  · obtain ⟨sc, ht, hc, -⟩ := a3
    have hb0 := hc.2.2.2.2.2.2.2.2.2.1
    have hb1 := hc.2.2.2.2.2.2.2.2.2.2.1
    have hbk := hc.2.2.2.2.2.2.2.2.2.2.2.1
    have hdeg := cin_deg hc
    refine ⟨fun c => Nat.le_trans (l1_all (hc.1 0 (by omega)).1 hb0 c) (Nat.pow_le_pow_right (by omega) hf), fun k k1 k2 => ?_⟩
    have hdk := hdeg k k1 k2
    refine ⟨by omega, fun c => ?_⟩
    rcases Nat.eq_or_lt_of_le k1 with e | e
    · subst e
      refine Nat.le_trans (l1_all (hc.1 1 k2).1 hb1 c) (Nat.pow_le_pow_right (by omega) ?_)
      rw [show d 0 - d 1 = 1 by omega]
      omega
    · refine Nat.le_trans (hbk k e k2 c) (Nat.pow_le_pow_right (by omega) ?_)
      have hlt := hc.2.2.1 (k - 1) (by omega) (by omega)
      rw [show k - 1 + 1 = k by omega] at hlt
      unfold bt
      have x1 : (d 1 - (d (k - 1) - 1)) * f ≤ (d 0 - d k) * fbm (d 0) := Nat.mul_le_mul (by omega) hf
      have x2 : (d 0 - (d (k - 1) - 1)) * g ≤ (d 0 - d k) * (fbm (d 0) + 3) := Nat.mul_le_mul (by omega) hg
      have x3 : (d 0 - d k) * (2 * fbm (d 0) + 3) = (d 0 - d k) * fbm (d 0) + (d 0 - d k) * (fbm (d 0) + 3) := by rw [← Nat.mul_add]; congr 1; omega
      omega
end
/-- how fine a cell may be -/
def LV (_ : Nat) : Nat := 572
def uM (m : Nat) : Nat := (fbm m + 3 + (33 + LV m) * (m - 1)) / 31 + 1
def vM (m : Nat) : Nat := (33 + LV m) / 31 + 1
def cM (d : Nat → Nat) (k : Nat) : Nat := if k = 0 then fbm (d 0) / 31 + 1 else ((d 0 - d k) * (2 * fbm (d 0) + 3)) / 31 + 1
theorem uvM : ∀ m, m ≤ 8 → uM m + vM m ≤ 159 := by unfold uM vM LV fbm; decide +kernel
theorem fLV : ∀ m, m ≤ 8 → 2 * fbm m + 3 ≤ 33 + LV m := by unfold LV fbm; decide +kernel
theorem cE0 : ∀ m, m ≤ 8 → fbm m / 31 + 1 + LV m * m / 31 + 1 ≤ 159 := by unfold LV fbm; decide +kernel
theorem cE1 : ∀ m, m ≤ 8 → ∀ e, e < m → ((m - e) * (2 * fbm m + 3)) / 31 + 1 + LV m * e / 31 + 1 ≤ 159 := by unfold LV fbm; decide +kernel
theorem hv_bd {P : Nat → Int} {n ex b B : Nat} {X : Int} (hP : ∀ k, (P k).natAbs ≤ 2 ^ b) (hX : X.natAbs ≤ 2 ^ B) (hex : ex ≤ B) : ∀ i, (hv P n X ex i).natAbs ≤ i * 2 ^ (b + B * (i - 1)) := by
  intro i
  induction i with
  | zero => simp [hv]
  | succ i ih =>
    have h1 : (hv P n X ex (i + 1)).natAbs ≤ (hv P n X ex i).natAbs * X.natAbs + (P (n - i)).natAbs * 2 ^ (ex * i) := by
      simp only [hv]
      refine Nat.le_trans (Int.natAbs_add_le _ _) ?_
      rw [Int.natAbs_mul, Int.natAbs_mul, Int.natAbs_pow]
      exact Nat.le_refl _
    refine Nat.le_trans h1 ?_
    have h2 : (P (n - i)).natAbs * 2 ^ (ex * i) ≤ 2 ^ (b + B * (i + 1 - 1)) := by
      rw [Nat.add_sub_cancel, Nat.pow_add]
      exact Nat.mul_le_mul (hP _) (Nat.pow_le_pow_right (by omega) (Nat.mul_le_mul_right _ hex))
    have h3 : (hv P n X ex i).natAbs * X.natAbs ≤ i * 2 ^ (b + B * (i + 1 - 1)) := by
      refine Nat.le_trans (Nat.mul_le_mul ih hX) ?_
      rw [Nat.mul_assoc, ← Nat.pow_add]
      rcases Nat.eq_zero_or_pos i with e | e
      · subst e; simp
      · refine Nat.mul_le_mul_left _ (Nat.pow_le_pow_right (by omega) ?_)
        obtain ⟨j, rfl⟩ : ∃ j, i = j + 1 := ⟨i - 1, by omega⟩
        rw [Nat.add_sub_cancel, Nat.add_sub_cancel, Nat.mul_add, Nat.mul_one]
        omega
    rw [Nat.add_mul, Nat.one_mul]
    omega
section
variable {P : Nat → Int} {n M : Nat} {F : Nat → Nat → Int} {d : Nat → Nat}
/-- all values at points of up to 33 + LV bits fit -/
theorem gch.fit (h : gch P n M F d) {X : Int} {ex : Nat} (hX : X.natAbs ≤ 2 ^ (33 + LV (d 0))) (hE : ex ≤ LV (d 0)) : (X.natAbs : Int) < 2147483648 ^ vM (d 0) ∧ (∀ k, k < M + 1 → ∀ i, i ≤ d k → ((hv (F k) (d k) X ex i).natAbs : Int) < 2147483648 ^ uM (d 0)) ∧ ∀ k, k < M + 1 → cM d k + ex * d k / 31 + 1 ≤ 159 := by
  have h8 : d 0 ≤ 8 := by have := h.cnt; have := h.2.2.1; omega
  have hb := h.bits
  refine ⟨lim_ofI hX, fun k hk i hi => ?_, fun k hk => ?_⟩
  · rcases Nat.eq_zero_or_pos i with e | e
    · subst e
      show ((0 : Int).natAbs : Int) < _
      exact ip_pos (by decide) _
    have h3 : i * 2 ^ ((if k = 0 then fbm (d 0) else (d 0 - d k) * (2 * fbm (d 0) + 3)) + (33 + LV (d 0)) * (i - 1)) ≤ 2 ^ (3 + ((if k = 0 then fbm (d 0) else (d 0 - d k) * (2 * fbm (d 0) + 3)) + (33 + LV (d 0)) * (i - 1))) := by
      rw [Nat.pow_add 2 3]
      refine Nat.mul_le_mul_right _ ?_
      have : d k ≤ d 0 := by
        rcases Nat.eq_zero_or_pos k with e2 | e2
        · subst e2; exact Nat.le_refl _
        · exact Nat.le_of_lt (hb.2 k e2 (by omega)).1
      omega
    have h1 := Nat.le_trans (hv_bd (n := d k) (P := F k) (b := if k = 0 then fbm (d 0) else (d 0 - d k) * (2 * fbm (d 0) + 3)) (fun c => by
      split
      · rename_i e2; subst e2; exact hb.1 c
      · rename_i e2; exact (hb.2 k (by omega) (by omega)).2 c) hX (Nat.le_trans hE (Nat.le_add_left _ _)) i) h3
    refine lim_up (lim_ofI h1) ?_
    unfold uM
    refine Nat.add_le_add_right (Nat.div_le_div_right ?_) 1
    split
    · rename_i e2
      subst e2
      have := Nat.mul_le_mul_left (33 + LV (d 0)) (show i - 1 ≤ d 0 - 1 by omega)
      omega
    · rename_i e2
      have hlt := (hb.2 k (by omega) (by omega)).1
      have x1 := Nat.mul_le_mul_left (33 + LV (d 0)) (show i - 1 ≤ d k - 1 by omega)
      have x2 := Nat.mul_le_mul_left (d 0 - d k) (fLV (d 0) h8)
      have x3 : (33 + LV (d 0)) * (d 0 - 1) = (33 + LV (d 0)) * (d k - 1) + (d 0 - d k) * (33 + LV (d 0)) := by
        rw [Nat.mul_comm (d 0 - d k), ← Nat.mul_add]
        congr 1
        omega
      omega
  · unfold cM
    split
    · rename_i e2
      subst e2
      have := cE0 (d 0) h8
      have := Nat.div_le_div_right (c := 31) (Nat.mul_le_mul_right (d 0) hE)
      omega
    · rename_i e2
      have hlt := (hb.2 k (by omega) (by omega)).1
      have := cE1 (d 0) h8 (d k) hlt
      have := Nat.div_le_div_right (c := 31) (Nat.mul_le_mul_right (d k) hE)
      omega
theorem gch.cb (h : gch P n M F d) : ∀ k, k < M + 1 → ∀ j, j ≤ d k → ((F k j).natAbs : Int) < 2147483648 ^ cM d k := by
  intro k hk j hj
  have hb := h.bits
  unfold cM
  split
  · rename_i e2; subst e2; exact lim_ofI (hb.1 j)
  · rename_i e2; exact lim_ofI ((hb.2 k (by omega) (by omega)).2 j)
end
