/-! THE REFERENCE'S EXACT DIVISION: what it finds, and how large all is -/
theorem qs_dl (V : Nat → Int) {s : Nat} (c : Nat) : ∀ T, (s < T → qs (fun k => if k = s then (1 : Int) else 0) V T c = shP V s c) ∧ (T ≤ s → qs (fun k => if k = s then (1 : Int) else 0) V T c = 0)
  | 0 => ⟨fun h => by omega, fun _ => rfl⟩
  | T + 1 => by
    obtain ⟨h1, h2⟩ := qs_dl V (s := s) c T
    rw [qs]
    refine ⟨fun h => ?_, fun h => ?_⟩
    · by_cases e : T = s
      · rw [h2 (by omega), if_pos e, e]; simp
      · rw [h1 (by omega), if_neg e]; simp
    · rw [h2 (by omega), if_neg (by omega)]; simp
theorem qs_cg {K K' V : Nat → Int} (c : Nat) : ∀ t, (∀ k, k < t → K k = K' k) → qs K V t c = qs K' V t c
  | 0, _ => rfl
  | t + 1, h => by rw [qs, qs, qs_cg c t (fun k hk => h k (by omega)), h t (by omega)]
theorem qs_in {K V : Nat → Int} {b : Nat} (hV : ∀ c, b < c → V c = 0) (hb : V b ≠ 0) : ∀ t, (∀ c, qs K V t c = 0) → ∀ k, k < t → K k = 0
  | 0, _ => fun k hk => by omega
  | t + 1, h => by
    have h1 := qs_topc (Q := K) (D := V) (b := b) (k := t) hV
    rw [h] at h1
    have h2 : K t = 0 := by
      rcases Int.mul_eq_zero.1 h1.symm with h | h
      · exact h
      · exact absurd h hb
    have h3 := qs_in hV hb t (fun c => by have := h c; rw [qs, h2, Int.zero_mul, Int.add_zero] at this; exact this)
    intro k hk
    rcases Nat.lt_or_ge k t with h4 | h4
    · exact h3 k h4
    · rw [show k = t by omega]; exact h2
theorem exs_z {D : Nat → Int} {b : Nat} {P : Nat → Int} {n : Nat} (k : Nat) : ∀ t, (k ≤ n - b → k + t ≤ n - b) → exs D b P n t k = 0
  | 0, _ => rfl
  | t + 1, h => by
    rw [exs, if_neg (fun e => by have := h (by omega); omega), exs_z k t (fun h1 => by have := h h1; omega), Int.zero_mul]
theorem ex_bd {D : Nat → Int} {b : Nat} {P : Nat → Int} {n u v : Nat} (hP : ∀ c, (P c).natAbs ≤ 2 ^ u) (hD : ∀ c, (D c).natAbs ≤ 2 ^ v) : ∀ t, (∀ k, (exw D b P n t k).natAbs ≤ 2 ^ (u + t * (v + 1))) ∧ ∀ k, (exs D b P n t k).natAbs ≤ 2 ^ (u + t * (v + 1))
  | 0 => ⟨fun k => by rw [Nat.zero_mul]; exact hP k, fun k => Nat.zero_le _⟩
  | t + 1 => by
    obtain ⟨h1, h2⟩ := ex_bd (n := n) (b := b) hP hD t
    have e : u + (t + 1) * (v + 1) = u + t * (v + 1) + v + 1 := by rw [Nat.add_mul t]; omega
    rw [e]
    refine ⟨fun k => ?_, fun k => ?_⟩
    · have hs : (shP D (n - b - t) k).natAbs ≤ 2 ^ v := by
        unfold shP
        split
        · exact Nat.zero_le _
        · exact hD _
      rw [exw]
      refine Nat.le_trans (Int.natAbs_sub_le _ _) ?_
      rw [Int.natAbs_mul, Int.natAbs_mul, Nat.pow_succ, Nat.pow_add 2 _ v, Nat.mul_two]
      refine Nat.add_le_add (Nat.mul_le_mul (h1 k) (hD _)) ?_
      rw [Nat.mul_comm]
      exact Nat.mul_le_mul (h1 _) hs
    · rw [exs]
      split
      · exact Nat.le_trans (h1 _) (Nat.pow_le_pow_right (by omega) (by omega))
      · rw [Int.natAbs_mul]
        refine Nat.le_trans (Nat.mul_le_mul (h2 k) (hD _)) ?_
        rw [← Nat.pow_add]
        exact Nat.pow_le_pow_right (by omega) (by omega)
theorem ex_rel {P D : Nat → Int} {n k : Nat} (hk : k ≤ n) (hD : ∀ c, k < c → D c = 0) (hP : ∀ c, n < c → P c = 0) : ∀ t, t ≤ n - k + 1 → (∀ c, D k ^ t * P c = qs (exs D (k + 1) P (n + 1) t) D (n - k + 1) c + exw D (k + 1) P (n + 1) t c) ∧ ∀ c, n < c + t → exw D (k + 1) P (n + 1) t c = 0
  | 0, _ => ⟨fun c => by
      have : qs (exs D (k + 1) P (n + 1) 0) D (n - k + 1) c = 0 := by
        have h : ∀ u, qs (exs D (k + 1) P (n + 1) 0) D u c = 0 := by
          intro u
          induction u with
          | zero => rfl
          | succ u ih => rw [qs, ih, exs]; simp
        exact h _
      rw [this, exw]; simp, fun c hc => hP c (by omega)⟩
  | t + 1, ht => by
    obtain ⟨h1, h2⟩ := ex_rel hk hD hP t (by omega)
    have es : n + 1 - (k + 1) - t = n - k - t := by omega
    have et : n + 1 - 1 - t = n - t := by omega
    have ew : ∀ c, exw D (k + 1) P (n + 1) (t + 1) c = exw D (k + 1) P (n + 1) t c * D k - shP D (n - k - t) c * exw D (k + 1) P (n + 1) t (n - t) := fun c => by
      rw [exw, es, et, Nat.add_sub_cancel]
    refine ⟨fun c => ?_, fun c hc => ?_⟩
    · have eq1 : qs (exs D (k + 1) P (n + 1) (t + 1)) D (n - k + 1) c = D k * qs (exs D (k + 1) P (n + 1) t) D (n - k + 1) c + exw D (k + 1) P (n + 1) t (n - t) * shP D (n - k - t) c := by
        rw [← (qs_dl D (s := n - k - t) c (n - k + 1)).1 (by omega), ← qs_lin2]
        refine qs_cg c _ (fun j hj => ?_)
        rw [exs, es, et, Nat.add_sub_cancel]
        by_cases e : j = n - k - t
        · rw [if_pos e, if_pos e, exs_z j t (fun h => by omega)]; simp
        · rw [if_neg e, if_neg e]; simp [Int.mul_comm]
      rw [eq1, ew c, Int.pow_succ]
      have := h1 c
      grind
    · rw [ew c]
      by_cases e : c = n - t
      · subst e
        unfold shP
        rw [if_neg (by omega), show n - t - (n - k - t) = k by omega, Int.mul_comm]; omega
      · rw [h2 c (by omega)]
        have : shP D (n - k - t) c = 0 := by
          unfold shP
          rw [if_neg (by omega)]
          exact hD _ (by omega)
        rw [this]; simp
/-- the quotient, without the common divisor of its coefficients -/
theorem exs_ok {P D S : Nat → Int} {n k : Nat} (hk : k ≤ n) (hD : ∀ c, k < c → D c = 0) (hDk : D k ≠ 0) (hP : ∀ c, n < c → P c = 0) (hS : ∀ c, n - k < c → S c = 0) (hSn : S (n - k) ≠ 0) (e : ∀ c, P c = qs S D (n - k + 1) c) : exs D (k + 1) P (n + 1) (n - k + 1) (n - k) ≠ 0 ∧ pq S (n - k) (prm (exs D (k + 1) P (n + 1) (n - k + 1)) (n - k + 1)) (n - k + 1) := by
  obtain ⟨h1, h2⟩ := ex_rel hk hD hP (n - k + 1) (Nat.le_refl _)
  have hm : mlt D (exw D (k + 1) P (n + 1) (n - k + 1)) := by
    refine ⟨fun j => D k ^ (n - k + 1) * S j + -1 * exs D (k + 1) P (n + 1) (n - k + 1) j, n - k + 1, fun c => ?_⟩
    rw [qs_lin2, ← e c, h1 c]
    omega
  have h3 := hm.zero hD hDk (fun c hc => h2 c (by omega))
  have hp0 : D k ^ (n - k + 1) ≠ 0 := by
    intro h0
    have : ∀ t, D k ^ t ≠ 0 := fun t => by
      induction t with
      | zero => rw [Int.pow_zero]; decide
      | succ t ih => rw [Int.pow_succ]; exact Int.mul_ne_zero ih hDk
    exact this _ h0
  have h4 : ∀ j, j < n - k + 1 → D k ^ (n - k + 1) * S j + -1 * exs D (k + 1) P (n + 1) (n - k + 1) j = 0 := by
    refine qs_in (K := fun j => D k ^ (n - k + 1) * S j + -1 * exs D (k + 1) P (n + 1) (n - k + 1) j) hD hDk _ (fun c => ?_)
    rw [qs_lin2, ← e c, h1 c, h3 c]
    omega
  have h5 : ∀ j, exs D (k + 1) P (n + 1) (n - k + 1) j = D k ^ (n - k + 1) * S j := fun j => by
    rcases Nat.lt_or_ge j (n - k + 1) with h | h
    · have := h4 j h; omega
    · rw [hS j (by omega), exs_z j _ (fun h6 => by omega), Int.mul_zero]
  have h6 : exs D (k + 1) P (n + 1) (n - k + 1) (n - k) ≠ 0 := by rw [h5]; exact Int.mul_ne_zero hp0 hSn
  exact ⟨h6, (prm_pq ⟨1, D k ^ (n - k + 1), by decide, hp0, fun c => by rw [Int.one_mul]; exact h5 c⟩ hS hSn (fun c hc => by rw [h5, hS c (by omega), Int.mul_zero]) (fun _ => by rw [Nat.add_sub_cancel]; exact h6)).2⟩
/-- a multiple of the part without repeated factors is one too -/
theorem fcp_div {P Q q : Nat → Int} {n m : Nat} {k : Int} (h : fcp P n Q m) (hk : k ≠ 0) (e : ∀ c, Q c = k * q c) : fcp P n q m := by
  obtain ⟨h1, h2, h3, D, d1, d2, d3, T, U, W, pT, pU, pW, t1, t2⟩ := h
  have hkr : (k : Rat) ≠ 0 := fun h0 => hk (by exact_mod_cast h0)
  have eq : ∀ x, ev Q (m + 1) x = (k : Rat) * ev q (m + 1) x := fun x => by
    have h4 := ev_lin k 0 q (fun _ => 0) x (m + 1)
    rw [ev_congr (Q := Q) (fun j _ => by rw [e j]; omega) x] at h4
    rw [h4]; grind
  have eD : ∀ x, ev (fun c => k * D c) (n - m + 1) x = (k : Rat) * ev D (n - m + 1) x := fun x => by
    have h4 := ev_lin k 0 D (fun _ => 0) x (n - m + 1)
    rw [ev_congr (Q := fun c => k * D c) (fun j _ => by omega) x] at h4
    rw [h4]; grind
  refine ⟨h1, fun c hc => ?_, fun h0 => h3 (by rw [e, h0, Int.mul_zero]), fun c => k * D c, fun c hc => by show k * D c = 0; rw [d1 c hc, Int.mul_zero], Int.mul_ne_zero hk d2, fun x => ?_, fun x => (1 / (k : Rat)) * T x, fun x => (k : Rat) * U x, fun x => (k : Rat) * W x, pT.smul _, pU.smul _, pW.smul _, fun x => ?_, fun x => ?_⟩
  · have := h2 c hc
    rw [e] at this
    rcases Int.mul_eq_zero.1 this with h4 | h4
    · exact absurd h4 hk
    · exact h4
  · rw [d3 x, eq x, eD x]; grind
  · rw [t1 x, eD x]
    have : (k : Rat) * (1 / (k : Rat)) = 1 := by rw [Rat.div_def, Rat.one_mul]; exact Rat.mul_inv_cancel _ hkr
    grind
  · have := t2 x
    rw [eq x] at this
    have h5 : (k : Rat) * (1 / (k : Rat)) = 1 := by rw [Rat.div_def, Rat.one_mul]; exact Rat.mul_inv_cancel _ hkr
    grind
