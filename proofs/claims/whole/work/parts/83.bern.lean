theorem ev_zero_inj' {A : Nat → Int} {B : Rat} : ∀ {n : Nat}, (∀ x, B ≤ x → ev A n x = 0) → ∀ k, k < n → A k = 0
  | 0, _, k, hk => by omega
  | n + 1, h, k, hk => by
    have h0 : A n = 0 := by
      refine Classical.byContradiction (fun hc => ?_)
      obtain ⟨H, hH, hb⟩ := ab_all A (n + 1)
      obtain ⟨b, hb0, hbb⟩ := ab.self B
      have h1 := ev_top (P := fun k => if k < n + 1 then A k else 0) (H := H) (x := 1 + H + b) (fun k => by
        show ab ((if k < n + 1 then A k else 0 : Int) : Rat) H
        by_cases hk : k < n + 1
        · rw [if_pos hk]; exact hb k hk
        · rw [if_neg hk]; unfold ab; grind) (by grind) (n := n) (by show (if n < n + 1 then A n else 0) ≠ 0; rw [if_pos (by omega)]; exact hc)
      rw [ev_congr (Q := A) (fun k hk => by rw [if_pos hk]), h _ (by unfold ab at hbb; grind), if_pos (by omega)] at h1
      rw [show sgr 0 = 0 from rfl] at h1
      exact hc (Int.sign_eq_zero_iff_zero.1 h1.symm)
    by_cases e : k = n
    · subst e; exact h0
    · refine ev_zero_inj' (B := B) (n := n) (fun x hx => ?_) k (by omega)
      have := h x hx
      rw [show ev A (n + 1) x = ev A n x + A n * x ^ n from rfl, h0] at this
      grind
/-- the slope of what is written in powers of t and 1 - t -/
theorem bv_df (E : Nat → Int) (n : Nat) : ∀ k, k ≤ n + 1 → df (fun t => bv E (n + 1) t k) (fun t => bv (fun i => (i + 1) * E (i + 1) - (n + 1 - i) * E i) n t k - (if k = 0 then 0 else k * E k * (t ^ (k - 1) * (1 - t) ^ (n + 1 - k)))) ∧ lp (fun t => bv E (n + 1) t k)
  | 0, _ => ⟨(df.const 0).congr (fun t => rfl) (fun t => by simp [bv]; grind), (lp.const 0).congr (fun t => rfl)⟩
  | k + 1, hk => by
    obtain ⟨h1, h2⟩ := bv_df E n k (by omega)
    -- t^k (1-t)^(n+1-k)
    have l1 : lp (fun t : Rat => 1 - t) := (lp.const 1).sub lp.id
    have d1 : df (fun t : Rat => 1 - t) (fun _ => -1) := ((df.const 1).add (df.id.smul (-1) lp.id)).congr (fun t => by grind) (fun t => by grind)
    obtain ⟨p1, p2⟩ := df.powf d1 l1 (n - k)
    have p3 := ((df.pow k).mul p1 (lp.pow k) p2).smul (E k) ((lp.pow k).mul p2)
    refine ⟨(h1.add p3).congr (fun t => ?_) (fun t => ?_), (h2.add (((lp.pow k).mul p2).smul (E k))).congr (fun t => ?_)⟩
    · show bv E (n + 1) t k + E k * (t ^ k * (1 - t) ^ (n + 1 - k)) = _
      rw [show n + 1 - k = n - k + 1 by omega]
    · show bv (fun i => (i + 1) * E (i + 1) - (n + 1 - i) * E i) n t k + (((k + 1) * E (k + 1) - (n + 1 - k) * E k : Int) : Rat) * (t ^ k * (1 - t) ^ (n - k)) - _ = _
      rw [if_neg (by omega), Nat.add_sub_cancel]
      have e1 : ((n - k : Nat) : Rat) = n - k := by
        have : ((n - k : Nat) : Rat) + (k : Rat) = n := by
          rw [← Rat.natCast_add]; congr 1; omega
        grind
      have e2 : ((k + 1 : Nat) : Rat) = k + 1 := by push_cast; rfl
      push_cast
      rw [e1]
      rcases Nat.eq_zero_or_pos k with hz | hz
      · subst hz
        rw [if_pos rfl]
        simp
        grind
      · rw [if_neg (by omega), show n + 1 - k = n - k + 1 by omega]
        generalize (1 - t) ^ (n - k + 1) = Z1 at *
        generalize (1 - t) ^ (n - k) = Z2 at *
        generalize t ^ (k - 1) = Z3 at *
        generalize t ^ k = Z4 at *
        grind
    · show bv E (n + 1) t k + E k * (t ^ k * (1 - t) ^ (n + 1 - k)) = _
      rw [show n + 1 - k = n - k + 1 by omega]
theorem bv_inj {X Y : Nat → Int} {n : Nat} (h : ∀ t, bv X n t (n + 1) = bv Y n t (n + 1)) (k : Nat) (hk : k < n + 1) : X k = Y k := by
  have h1 := ev_zero_inj' (A := fun k => 1 * X k + (-1) * Y k) (B := 0) (n := n + 1) (fun z hz => ?_) k hk
  · have h2 : 1 * X k + (-1) * Y k = 0 := h1
    omega
  · have ht2 : z / (1 + z) < 1 := by rw [Rat.div_lt_iff (by grind)]; grind
    have h3 := h (z / (1 + z))
    rw [bv_ev ht2 _ (Nat.le_refl _), bv_ev ht2 _ (Nat.le_refl _)] at h3
    have e : z / (1 + z) / (1 - z / (1 + z)) = z := by
      have h4 : (1 : Rat) + z ≠ 0 := by grind
      have h5 : 1 - z / (1 + z) = 1 / (1 + z) := by grind
      rw [h5]; grind
    rw [e] at h3
    have hp : (1 - z / (1 + z)) ^ n ≠ 0 := by
      have : 0 < (1 - z / (1 + z)) ^ n := Rat.pow_pos (by clear h3 e; grind)
      clear h3 e; grind
    rw [ev_lin]
    generalize (1 - z / (1 + z)) ^ n = W at *
    have h6 : W * (ev X (n + 1) z - ev Y (n + 1) z) = 0 := by grind
    rcases Rat.mul_eq_zero.1 h6 with h7 | h7
    · exact absurd h7 hp
    · clear ht2 e h3; grind
/-- what one more step gains -/
theorem be_step (T : Nat → Int) (n k : Nat) (hk : k < n + 1) : (k + 1) * be (n + 1) T (k + 1) - (n + 1 - k) * be (n + 1) T k = be n (dP T) k := by
  refine bv_inj (X := fun i => (i + 1) * be (n + 1) T (i + 1) - (n + 1 - i) * be (n + 1) T i) (fun t => ?_) k hk
  obtain ⟨h1, h2⟩ := bv_df (be (n + 1) T) n (n + 1) (Nat.le_refl _)
  have h3 := h1.add ((df.pow (n + 1)).smul (be (n + 1) T (n + 1)) (lp.pow (n + 1)))
  have h4 : df (ev T (n + 2)) (fun t => bv (fun i => (i + 1) * be (n + 1) T (i + 1) - (n + 1 - i) * be (n + 1) T i) n t (n + 1)) := by
    refine h3.congr (fun t => ?_) (fun t => ?_)
    · rw [be_ev]
      show bv (be (n + 1) T) (n + 1) t (n + 1) + ((be (n + 1) T (n + 1) : Int) : Rat) * (t ^ (n + 1) * (1 - t) ^ (n + 1 - (n + 1))) = _
      rw [Nat.sub_self]; grind
    · rw [if_neg (by omega), Nat.sub_self, Nat.add_sub_cancel]
      grind
  rw [← be_ev]
  exact h4.uniq (ev_df T (n + 2)) t
theorem psm_lin (a b : Int) (P Q : Nat → Int) : ∀ k, psm (fun k => a * P k + b * Q k) k = a * psm P k + b * psm Q k
  | 0 => rfl
  | k + 1 => by simp only [psm]; rw [psm_lin a b P Q k]; grind
theorem be_lin (a b : Int) : ∀ n (P Q : Nat → Int) k, be n (fun k => a * P k + b * Q k) k = a * be n P k + b * be n Q k
  | 0, P, Q, k => rfl
  | n + 1, P, Q, k => by
    show (if k = n + 1 then psm (fun k => a * P k + b * Q k) (n + 1) else be n (psm (fun k => a * P k + b * Q k)) k) = a * (if k = n + 1 then psm P (n + 1) else be n (psm P) k) + b * (if k = n + 1 then psm Q (n + 1) else be n (psm Q) k)
    by_cases h : k = n + 1
    · rw [if_pos h, if_pos h, if_pos h, psm_lin]
    · rw [if_neg h, if_neg h, if_neg h, show psm (fun k => a * P k + b * Q k) = fun k => a * psm P k + b * psm Q k from funext (psm_lin a b P Q), be_lin a b n]
theorem psm_bd {a : Nat → Int} {M : Nat} (h : ∀ k, (a k).natAbs ≤ M) : ∀ k, (psm a k).natAbs ≤ (k + 1) * M
  | 0 => by have := h 0; show (a 0).natAbs ≤ _; omega
  | k + 1 => by
    have h1 := psm_bd h k
    have h2 := h (k + 1)
    show (psm a k + a (k + 1)).natAbs ≤ _
    have h3 := Int.natAbs_add_le (psm a k) (a (k + 1))
    have : (k + 1 + 1) * M = (k + 1) * M + M := by rw [Nat.add_mul (k + 1) 1 M, Nat.one_mul]
    omega
/-- the first n + 1 sums, of coefficients up to M -/
theorem be_bd : ∀ n (a : Nat → Int) (M : Nat), (∀ k, k ≤ n → (a k).natAbs ≤ M) → ∀ k, k ≤ n → (be n a k).natAbs ≤ (n + 1) ^ n * M
  | 0, a, M, h, k, hk => by show (a k).natAbs ≤ _; have := h k hk; simp; omega
  | n + 1, a, M, h, k, hk => by
    have h1 : ∀ j, j ≤ n + 1 → (psm a j).natAbs ≤ (n + 2) * M := by
      intro j hj
      have h2 : ∀ i, i ≤ j → (psm a i).natAbs ≤ (i + 1) * M := by
        intro i
        induction i with
        | zero => intro _; have := h 0 (by omega); show (a 0).natAbs ≤ _; omega
        | succ i ih =>
          intro hi
          have h3 := ih (by omega)
          have h4 := h (i + 1) (by omega)
          show (psm a i + a (i + 1)).natAbs ≤ _
          have h5 := Int.natAbs_add_le (psm a i) (a (i + 1))
          have : (i + 1 + 1) * M = (i + 1) * M + M := by rw [Nat.add_mul (i + 1) 1 M, Nat.one_mul]
          omega
      exact Nat.le_trans (h2 j (Nat.le_refl _)) (Nat.mul_le_mul_right M (by omega))
    show (if k = n + 1 then psm a (n + 1) else be n (psm a) k).natAbs ≤ _
    have hp : 1 ≤ (n + 1 + 1) ^ n := Nat.pow_pos (by omega)
    by_cases e : k = n + 1
    · rw [if_pos e]
      refine Nat.le_trans (h1 (n + 1) (Nat.le_refl _)) ?_
      rw [Nat.pow_succ, Nat.mul_assoc]
      exact Nat.le_mul_of_pos_left _ hp
    · rw [if_neg e]
      refine Nat.le_trans (be_bd n (psm a) ((n + 2) * M) (fun j hj => h1 j (by omega)) k (by omega)) ?_
      rw [Nat.pow_succ, Nat.mul_assoc]
      exact Nat.mul_le_mul_right _ (Nat.pow_le_pow_left (by omega) n)
/-- 1, and nothing else -/
theorem psm_nn {a : Nat → Int} (h0 : 1 ≤ a 0) (h : ∀ k, 0 ≤ a k) : ∀ k, 1 ≤ psm a k
  | 0 => h0
  | k + 1 => by have := psm_nn h0 h k; have := h (k + 1); show 1 ≤ psm a k + a (k + 1); omega
theorem be_nn : ∀ n (a : Nat → Int), 1 ≤ a 0 → (∀ k, 0 ≤ a k) → ∀ k, k ≤ n → 1 ≤ be n a k
  | 0, a, h0, h, k, hk => by rw [show k = 0 by omega]; exact h0
  | n + 1, a, h0, h, k, hk => by
    show 1 ≤ (if k = n + 1 then psm a (n + 1) else be n (psm a) k)
    by_cases e : k = n + 1
    · rw [if_pos e]; exact psm_nn h0 h _
    · rw [if_neg e]
      exact be_nn n (psm a) (psm_nn h0 h 0) (fun j => by have := psm_nn h0 h j; omega) k (by omega)
/-- where the first coefficient is much larger than the others, it decides -/
theorem be_big {T : Nat → Int} {n M : Nat} (hM : ∀ k, 1 ≤ k → k ≤ n → (T k).natAbs ≤ M) (h : (n + 1) ^ n * M < (T 0).natAbs) : ∀ k, k ≤ n → (be n T k).sign = (T 0).sign := by
  intro k hk
  -- T = T0 * [1, 0, ..] + rest
  have e : ∀ k, be n T k = T 0 * be n (fun i => if i = 0 then 1 else 0) k + 1 * be n (fun i => if i = 0 then 0 else T i) k := fun k => by
    rw [← be_lin]
    congr 1
    funext i
    by_cases hi : i = 0
    · rw [hi, if_pos rfl, if_pos rfl]; omega
    · rw [if_neg hi, if_neg hi]; omega
  have h1 := be_nn n (fun i => if i = 0 then 1 else 0) (by decide) (fun i => by split <;> decide) k hk
  have h2 := be_bd n (fun i => if i = 0 then 0 else T i) M (fun i hi => by
    by_cases h0 : i = 0
    · rw [if_pos h0]; exact Nat.zero_le _
    · rw [if_neg h0]; exact hM i (by omega) hi) k hk
  rw [e]
  generalize be n (fun i => if i = 0 then 1 else 0) k = A at *
  generalize be n (fun i => if i = 0 then 0 else T i) k = C at *
  rcases Int.lt_trichotomy (T 0) 0 with g | g | g
  · rw [Int.sign_eq_neg_one_of_neg g]
    refine Int.sign_eq_neg_one_of_neg ?_
    have : T 0 * A ≤ T 0 * 1 := Int.mul_le_mul_of_nonpos_left (by omega) h1
    omega
  · rw [g] at h; simp at h
  · rw [Int.sign_eq_one_of_pos g]
    refine Int.sign_eq_one_of_pos ?_
    have : T 0 * 1 ≤ T 0 * A := Int.mul_le_mul_of_nonneg_left h1 (by omega)
    omega
theorem vr_up {s : Nat → Int} {σ : Int} {n : Nat} (hσ : σ = 1 ∨ σ = -1) (hs : ∀ k, -1 ≤ s k ∧ s k ≤ 1) (h : ∀ k, k < n → (s k = 0 ∨ s k = σ) → s (k + 1) = σ) : (vr s (n + 1)).1 ≤ 1 := by
  have key : ∀ N, N ≤ n → ((vr s (N + 1)).1 = 0 ∧ ((vr s (N + 1)).2 = -σ ∨ (vr s (N + 1)).2 = 0) ∧ (s N = -σ ∨ s N = 0)) ∨ ((vr s (N + 1)).1 ≤ 1 ∧ (vr s (N + 1)).2 = σ ∧ s N = σ) := by
    intro N
    induction N with
    | zero =>
      intro _
      have hb := hs 0
      by_cases h0 : s 0 = 0
      · left
        rw [show vr s (0 + 1) = (0, 0) by simp [vr, h0]]; exact ⟨rfl, Or.inr rfl, Or.inr h0⟩
      · rw [show vr s (0 + 1) = (0, s 0) by simp [vr, h0]; omega]
        by_cases h1 : s 0 = σ
        · right; exact ⟨by simp, h1, h1⟩
        · left; exact ⟨rfl, Or.inl (by show s 0 = -σ; omega), Or.inl (by omega)⟩
    | succ N ih =>
      intro hN
      have hb := hs (N + 1)
      have hn := h N (by omega)
      have e : vr s (N + 1 + 1) = if s (N + 1) = 0 then vr s (N + 1) else ((vr s (N + 1)).1 + (if (vr s (N + 1)).2 = -(s (N + 1)) then 1 else 0), s (N + 1)) := by rw [vr]
      rw [e]
      rcases ih (by omega) with ⟨a, b, c⟩ | ⟨a, b, c⟩
      · by_cases h0 : s (N + 1) = 0
        · left; rw [if_pos h0]; exact ⟨a, b, Or.inr h0⟩
        · rw [if_neg h0]
          simp only
          by_cases h1 : s (N + 1) = σ
          · right
            refine ⟨?_, h1, h1⟩
            split <;> omega
          · left
            have h2 : s (N + 1) = -σ := by omega
            rw [if_neg (by omega)]
            exact ⟨by omega, Or.inl h2, Or.inl h2⟩
      · have h1 := hn (Or.inr c)
        right
        rw [if_neg (by omega)]
        simp only
        rw [if_neg (by omega)]
        exact ⟨by omega, h1, h1⟩
  rcases key n (Nat.le_refl _) with a | a <;> omega
theorem sgn_b (z : Int) : -1 ≤ z.sign ∧ z.sign ≤ 1 := by have := Int.sign_trichotomy z; omega
theorem vr_same {s : Nat → Int} {σ : Int} (hσ : σ ≠ 0) : ∀ {n : Nat}, (∀ k, k < n → s k = σ) → (vr s n).1 = 0 ∧ ((vr s n).2 = σ ∨ (vr s n).2 = 0)
  | 0, _ => ⟨rfl, Or.inr rfl⟩
  | n + 1, h => by
    obtain ⟨a, b⟩ := vr_same hσ (n := n) (fun k hk => h k (by omega))
    have h1 := h n (by omega)
    simp only [vr]
    rw [if_neg (by omega)]
    simp only
    rw [if_neg (by omega)]
    exact ⟨by omega, Or.inl h1⟩
/-- where the first coefficient, or the first slope, is much larger than the others: at most one change -/
theorem be_le1 {T : Nat → Int} {n M1 M2 : Nat} (hn : 1 ≤ n) (h1 : ∀ k, 1 ≤ k → k ≤ n → (T k).natAbs ≤ M1) (h2 : ∀ k, 1 ≤ k → k ≤ n - 1 → (dP T k).natAbs ≤ M2) (h : (n + 1) ^ n * M1 < (T 0).natAbs ∨ n ^ (n - 1) * M2 < (T 1).natAbs) : (vr (fun k => (be n T k).sign) (n + 1)).1 ≤ 1 := by
  rcases h with h | h
  · have a := be_big h1 h
    have h0 : (T 0).sign ≠ 0 := fun e => by rw [Int.sign_eq_zero_iff_zero.1 e] at h; simp at h
    have := (vr_same (s := fun k => (be n T k).sign) h0 (n := n + 1) (fun k hk => a k (by omega))).1
    omega
  · obtain ⟨m, rfl⟩ : ∃ m, n = m + 1 := ⟨n - 1, by omega⟩
    rw [Nat.add_sub_cancel] at h h2
    have e0 : dP T 0 = T 1 := by show ((0 : Nat) + 1 : Int) * T 1 = T 1; omega
    have a := be_big (T := dP T) (n := m) h2 (by rw [e0]; exact h)
    rw [e0] at a
    have h0 : (T 1).sign ≠ 0 := fun e => by rw [Int.sign_eq_zero_iff_zero.1 e] at h; simp at h
    have hσ : (T 1).sign = 1 ∨ (T 1).sign = -1 := by have := sgn_b (T 1); omega
    refine vr_up hσ (fun k => sgn_b _) (fun k hk hor => ?_)
    have st := be_step T m k hk
    have ak := a k (by omega)
    show (be (m + 1) T (k + 1)).sign = _
    have hpos : (0 : Int) ≤ m + 1 - k := by omega
    rcases hσ with e | e
    · rw [e] at hor ak ⊢
      have g1 : 0 ≤ be (m + 1) T k := Int.sign_nonneg_iff.1 (by show 0 ≤ (be (m + 1) T k).sign; rcases hor with q | q <;> (have : (be (m + 1) T k).sign = _ := q; omega))
      have g2 : 0 < be m (dP T) k := Int.sign_eq_one_iff_pos.1 ak
      have g3 := Int.mul_nonneg hpos g1
      refine Int.sign_eq_one_of_pos ?_
      refine Classical.byContradiction (fun hc => ?_)
      have g4 := Int.mul_nonneg (show (0 : Int) ≤ k + 1 by omega) (show 0 ≤ - be (m + 1) T (k + 1) by omega)
      rw [Int.mul_neg] at g4
      omega
    · rw [e] at hor ak ⊢
      have g1 : be (m + 1) T k ≤ 0 := Int.sign_nonpos_iff.1 (by show (be (m + 1) T k).sign ≤ 0; rcases hor with q | q <;> (have : (be (m + 1) T k).sign = _ := q; omega))
      have g2 : be m (dP T) k < 0 := Int.sign_eq_neg_one_iff_neg.1 ak
      have g3 := Int.mul_nonneg hpos (show 0 ≤ - be (m + 1) T k by omega)
      rw [Int.mul_neg] at g3
      refine Int.sign_eq_neg_one_of_neg ?_
      refine Classical.byContradiction (fun hc => ?_)
      have g4 := Int.mul_nonneg (show (0 : Int) ≤ k + 1 by omega) (show 0 ≤ be (m + 1) T (k + 1) by omega)
      omega
