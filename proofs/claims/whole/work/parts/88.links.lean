theorem sgn_abs (x : Int) : x * x.sign = (x.natAbs : Int) := Int.mul_sign_self x
theorem lw_zero {U V : Nat → Int} {a b : Nat} (hU : ∀ c, a < c → U c = 0) (hV : ∀ c, b < c → V c = 0) (hba : b ≤ a) : ∀ t, t ≤ a - b + 1 → ∀ c, a < c + t → lw U V a b t c = 0
  | 0, _, c, hc => hU c (by omega)
  | t + 1, ht, c, hc => by
    rw [lw_s]
    by_cases e : a < c + t
    · rw [lw_zero hU hV hba t (by omega) c e]
      have : shP V (a - t - b) c = 0 := by unfold shP; split; rfl; exact hV _ (by omega)
      rw [this]; simp
    · have ec : c = a - t := by omega
      subst ec
      rw [show shP V (a - t - b) (a - t) = V b by unfold shP; rw [if_neg (by omega)]; congr 1; omega]
      rw [Int.sub_self, Int.zero_mul]
/-- the rest: V's top coefficient to the t, times U, is a multiple of V and the rest -/
theorem lw_rel {U V : Nat → Int} {a b : Nat} (hba : b ≤ a) : ∀ t, t ≤ a - b + 1 → ∃ Q : Nat → Int, ∀ c, ((V b).natAbs : Int) ^ t * U c = qs Q V (a - b + 1) c + lw U V a b t c
  | 0, _ => ⟨fun _ => 0, fun c => by
      have : ∀ n, qs (fun _ => 0) V n c = 0 := by
        intro n
        induction n with
        | zero => rfl
        | succ n ih => show qs _ V n c + 0 * _ = 0; rw [ih]; omega
      rw [this]; show _ = 0 + U c; rw [Int.pow_zero, Int.one_mul, Int.zero_add]⟩
  | t + 1, ht => by
    obtain ⟨Q, h⟩ := lw_rel hba t (by omega)
    refine ⟨fun j => (V b).natAbs * Q j + (if j = a - t - b then (V b).sign * lw U V a b t (a - t) else 0), fun c => ?_⟩
    have key : ∀ n, qs (fun j => (V b).natAbs * Q j + (if j = a - t - b then (V b).sign * lw U V a b t (a - t) else 0)) V n c = (V b).natAbs * qs Q V n c + (if a - t - b < n then (V b).sign * lw U V a b t (a - t) * shP V (a - t - b) c else 0) := by
      intro n
      induction n with
      | zero => rw [if_neg (by omega)]; show (0 : Int) = _ * 0 + 0; omega
      | succ n ih =>
        show qs _ V n c + ((V b).natAbs * Q n + (if n = a - t - b then (V b).sign * lw U V a b t (a - t) else 0)) * shP V n c = (V b).natAbs * (qs Q V n c + Q n * shP V n c) + _
        rw [ih]
        by_cases e1 : a - t - b < n
        · rw [if_pos e1, if_neg (by omega), if_pos (by omega)]; grind
        · rw [if_neg e1]
          by_cases e2 : n = a - t - b
          · rw [if_pos e2, if_pos (by omega), e2]; grind
          · rw [if_neg e2, if_neg (by omega)]; grind
    rw [key, if_pos (by omega), Int.pow_succ, lw_s]
    have h1 := h c
    have h2 := sgn_abs (V b)
    generalize lw U V a b t c = X at *
    generalize lw U V a b t (a - t) = Y at *
    generalize shP V (a - t - b) c = Z at *
    generalize qs Q V (a - b + 1) c = W at *
    generalize ((V b).natAbs : Int) ^ t = E at *
    generalize ((V b).natAbs : Int) = N at *
    generalize (V b).sign = s at *
    have h3 : E * N * U c = N * (E * U c) := by grind
    rw [h3, h1]
    have h4 : (X * V b - Y * Z) * s = X * (V b * s) - Y * Z * s := by grind
    rw [h4, h2]; grind
theorem lw_bd {U V : Nat → Int} {a b u v : Nat} (hU : ∀ c, (U c).natAbs ≤ 2 ^ u) (hV : ∀ c, (V c).natAbs ≤ 2 ^ v) : ∀ t c, (lw U V a b t c).natAbs ≤ 2 ^ (u + t * (v + 1))
  | 0, c => by rw [Nat.zero_mul]; exact hU c
  | t + 1, c => by
    rw [lw_s, Int.natAbs_mul]
    have hs : (V b).sign.natAbs ≤ 1 := by have := sgn_b (V b); omega
    have h1 := lw_bd hU hV (a := a) (b := b) t c
    have h2 := lw_bd hU hV (a := a) (b := b) t (a - t)
    have h3 := hV b
    have h4 : (shP V (a - t - b) c).natAbs ≤ 2 ^ v := by unfold shP; split; exact Nat.zero_le _; exact hV _
    have h5 := Int.natAbs_sub_le (lw U V a b t c * V b) (lw U V a b t (a - t) * shP V (a - t - b) c)
    rw [Int.natAbs_mul, Int.natAbs_mul] at h5
    have h6 := Nat.mul_le_mul h1 h3
    have h7 := Nat.mul_le_mul h2 h4
    have h8 := Nat.mul_le_mul_left (lw U V a b t c * V b - lw U V a b t (a - t) * shP V (a - t - b) c).natAbs hs
    have e : 2 ^ (u + (t + 1) * (v + 1)) = 2 * (2 ^ (u + t * (v + 1)) * 2 ^ v) := by
      rw [← Nat.pow_add, show u + (t + 1) * (v + 1) = (u + t * (v + 1) + v) + 1 by rw [Nat.add_mul]; omega, Nat.pow_succ]; omega
    rw [e]
    omega
/-- bits of the subresultants -/
def bt (f g n m j : Nat) : Nat := (m - j) * f + (n - j) * g
theorem bt_le {f g n m i j : Nat} (h : i ≤ j) : bt f g n m j ≤ bt f g n m i := Nat.add_le_add (Nat.mul_le_mul_right _ (by omega)) (Nat.mul_le_mul_right _ (by omega))
/-- the chain fits: f, g bits in the first two links, of degrees n, m -/
def okc (f g n m : Nat) : Prop := m * f + n * g ≤ 1480 ∧ f + (n - m) * (g + 1) + g ≤ 4836 ∧ ∀ a, a ≤ m → ∀ b, b < a → 1 ≤ b → (bt f g n m a + g) + (a - b) * (bt f g n m (a - 1) + 1) + bt f g n m (a - 1) ≤ 4836
/-- the links 0 .. i of a chain -/
def cin (F : Nat → Nat → Int) (d : Nat → Nat) (f g i sc ht : Nat) : Prop :=
  (∀ k, k ≤ i → (∀ c, d k < c → F k c = 0) ∧ F k (d k) ≠ 0) ∧ d 1 ≤ d 0 ∧ (∀ k, 1 ≤ k → k < i → d (k + 1) < d k) ∧
  (∀ k, k + 2 ≤ i → ∃ (A β : Int) (Q : Nat → Int), 0 < A ∧ 0 < β ∧ ∀ c, A * F k c = qs Q (F (k + 1)) (d k - d (k + 1) + 1) c - β * F (k + 2) c) ∧
  sri (F 0) (F 1) (d 0) (d 1) (F (i - 1)) (F i) (d (i - 1)) (d i) sc ht ∧ 0 < sc ∧ 0 < ht ∧ d (i - 1) + d i ≤ d 0 + d 1 ∧
  (∀ k, 1 ≤ k → k ≤ d (i - 1) - d i → ∃ M, ht ^ (k - 1) * M = (F i (d i)).natAbs ^ k ∧ M ≤ 2 ^ (bt f g (d 0) (d 1) (d (i - 1) - k) + (if i = 1 then k * g else 0)) ∧ (k = d (i - 1) → dt (dn (d 0 + d 1) (d 0 + d 1)) (srs (F 0) (d 1) ++ srs (F 1) (d 0)) ≠ 0)) ∧
  l1 (F 0) (d 0 + 1) ≤ 2 ^ f ∧ l1 (F 1) (d 1 + 1) ≤ 2 ^ g ∧
  (∀ k, 2 ≤ k → k ≤ i → ∀ c, (F k c).natAbs ≤ 2 ^ bt f g (d 0) (d 1) (d (k - 1) - 1)) ∧
  (i = 1 → sc = 1 ∧ ht = 1) ∧ (2 ≤ i → sc = (F (i - 1) (d (i - 1))).natAbs ∧ ht ≤ 2 ^ bt f g (d 0) (d 1) (d (i - 1)))
theorem l1_ge {r : Nat → Int} {k : Nat} : ∀ {n : Nat}, k < n → (r k).natAbs ≤ l1 r n
  | 0, h => by omega
  | n + 1, h => by
    show _ ≤ l1 r n + (r n).natAbs
    by_cases e : k = n
    · subst e; omega
    · have := l1_ge (r := r) (k := k) (n := n) (by omega); omega
theorem l1_all {r : Nat → Int} {n f : Nat} (h0 : ∀ c, n < c → r c = 0) (h : l1 r (n + 1) ≤ 2 ^ f) (c : Nat) : (r c).natAbs ≤ 2 ^ f := by
  by_cases hc : c ≤ n
  · exact Nat.le_trans (l1_ge (by omega)) h
  · rw [h0 c (by omega)]; exact Nat.zero_le _
/-- how large the links of the pair are, and both numbers -/
theorem cin_bits {F : Nat → Nat → Int} {d : Nat → Nat} {f g i sc ht : Nat} (h : cin F d f g i sc ht) (hi : 1 ≤ i) : (∀ c, (F (i - 1) c).natAbs ≤ 2 ^ (if i = 1 then f else bt f g (d 0) (d 1) (d (i - 1)) + g)) ∧ (∀ c, (F i c).natAbs ≤ 2 ^ (if i = 1 then g else bt f g (d 0) (d 1) (d (i - 1) - 1))) ∧ sc ≤ 2 ^ (if i = 1 then 0 else bt f g (d 0) (d 1) (d (i - 1)) + g) ∧ ht ≤ 2 ^ (if i = 1 then 0 else bt f g (d 0) (d 1) (d (i - 1))) := by
  obtain ⟨h1, h2, h3, h4, h5, h6, h7, h8, h9, h10, h11, h12, h13, h14⟩ := h
  by_cases e : i = 1
  · subst e
    rw [if_pos rfl, if_pos rfl, if_pos rfl, if_pos rfl, (h13 rfl).1, (h13 rfl).2]
    exact ⟨fun c => l1_all (h1 0 (by omega)).1 h10 c, fun c => l1_all (h1 1 (by omega)).1 h11 c, Nat.le_refl _, Nat.le_refl _⟩
  · rw [if_neg e, if_neg e, if_neg e, if_neg e]
    have hu : ∀ c, (F (i - 1) c).natAbs ≤ 2 ^ (bt f g (d 0) (d 1) (d (i - 1)) + g) := by
      intro c
      by_cases e2 : i = 2
      · subst e2
        exact Nat.le_trans (l1_all (h1 1 (by omega)).1 h11 c) (Nat.pow_le_pow_right (by omega) (by omega))
      · have a := h12 (i - 1) (by omega) (by omega) c
        have b := h3 (i - 2) (by omega) (by omega)
        rw [show i - 2 + 1 = i - 1 by omega] at b
        refine Nat.le_trans a (Nat.pow_le_pow_right (by omega) (Nat.le_trans (bt_le ?_) (Nat.le_add_right _ _)))
        rw [show i - 1 - 1 = i - 2 by omega]; omega
    exact ⟨hu, fun c => h12 i (by omega) (Nat.le_refl _) c, by rw [(h14 (by omega)).1]; exact hu _, (h14 (by omega)).2⟩
/-- the first pair -/
theorem cin_0 {F : Nat → Nat → Int} {d : Nat → Nat} {f g : Nat} (h0 : ∀ c, d 0 < c → F 0 c = 0) (h1 : ∀ c, d 1 < c → F 1 c = 0) (n0 : F 0 (d 0) ≠ 0) (n1 : F 1 (d 1) ≠ 0) (hd : d 1 ≤ d 0) (hf : l1 (F 0) (d 0 + 1) ≤ 2 ^ f) (hg : l1 (F 1) (d 1 + 1) ≤ 2 ^ g) : cin F d f g 1 1 1 := by
  refine ⟨fun k hk => ?_, hd, fun k a b => by omega, fun k a => by omega, sri_0 _ _ _ _, by omega, by omega, Nat.le_refl _, fun k a b => ?_, hf, hg, fun k a b => by omega, fun _ => ⟨rfl, rfl⟩, fun a => by omega⟩
  · rcases Nat.lt_or_ge 0 k with e | e
    · rw [show k = 1 by omega]; exact ⟨h1, n1⟩
    · rw [show k = 0 by omega]; exact ⟨h0, n0⟩
  · refine ⟨(F 1 (d 1)).natAbs ^ k, by rw [Nat.one_pow, Nat.one_mul], ?_, fun hk0 => ?_⟩
    · rw [if_pos rfl]
      have a := Nat.pow_le_pow_left (l1_all h1 hg (d 1)) k
      rw [← Nat.pow_mul, Nat.mul_comm g k] at a
      exact Nat.le_trans a (Nat.pow_le_pow_right (by omega) (Nat.le_add_left _ _))
    · rw [show 1 - 1 = 0 from rfl] at b hk0
      have hd1 : d 1 = 0 := by omega
      have e1 : dt [] ([] : List (Nat → Int)) = 1 := by rw [dt, if_pos rfl]
      have hr := dt_run (v := F 1) (b := 0) (fun c hc => h1 c (by omega)) [] (d 0) (d 0) [] (Nat.le_refl _) (fun w hw => by simp at hw)
      intro h0
      rw [hd1] at h0 n1
      have e2 : srs (F 0) 0 = [] := rfl
      have e3 : srs (F 1) 0 = [] := rfl
      rw [e2, Nat.add_zero, List.nil_append] at h0
      rw [Nat.sub_self, e3, Nat.add_zero, List.append_nil, List.nil_append, List.nil_append, h0, e1] at hr
      have := Nat.pow_pos (n := d 0) (show 0 < (F 1 0).natAbs by omega)
      simp at hr
      omega
/-- the powers of the top coefficient over the height's -/
def hk (l ht k : Nat) : Nat := l ^ k / ht ^ (k - 1)
theorem hk_eq {l ht k : Nat} (h : ∃ M, ht ^ (k - 1) * M = l ^ k) (h0 : 0 < ht) : ht ^ (k - 1) * hk l ht k = l ^ k := by
  obtain ⟨M, h⟩ := h
  unfold hk
  rw [← h, Nat.mul_div_cancel_left _ (Nat.pow_pos h0)]
theorem hk_1 (l ht : Nat) : hk l ht 1 = l := by unfold hk; simp
theorem hk_s {l ht k : Nat} (hk1 : 1 ≤ k) (h : ∃ M, ht ^ (k - 1) * M = l ^ k) (h' : ∃ M, ht ^ k * M = l ^ (k + 1)) (h0 : 0 < ht) : hk l ht (k + 1) * ht = hk l ht k * l := by
  have a := hk_eq h h0
  have b := hk_eq (k := k + 1) (by rw [Nat.add_sub_cancel]; exact h') h0
  rw [Nat.add_sub_cancel] at b
  obtain ⟨j, rfl⟩ : ∃ j, k = j + 1 := ⟨k - 1, by omega⟩
  rw [Nat.add_sub_cancel] at a
  refine Nat.eq_of_mul_eq_mul_left (Nat.pow_pos h0 (n := j)) ?_
  rw [Nat.pow_succ ht] at b
  rw [Nat.pow_succ l (j + 1)] at b
  rw [← a] at b
  generalize hk l ht (j + 1 + 1) = X at *
  generalize hk l ht (j + 1) = Y at *
  generalize ht ^ j = Z at *
  grind
/-- what is left can be divided, and how large the quotient is -/
theorem cin_exact {F : Nat → Nat → Int} {d : Nat → Nat} {f g i sc ht : Nat} (h : cin F d f g i sc ht) (hi : 1 ≤ i) (hb : 1 ≤ d i) (e : Nat) : ((sc * ht ^ (d (i - 1) - d i) : Nat) : Int) * ((lw (F (i - 1)) (F i) (d (i - 1)) (d i) (d (i - 1) - d i + 1) e).tdiv ((sc * ht ^ (d (i - 1) - d i) : Nat) : Int)) = lw (F (i - 1)) (F i) (d (i - 1)) (d i) (d (i - 1) - d i + 1) e ∧ ((lw (F (i - 1)) (F i) (d (i - 1)) (d i) (d (i - 1) - d i + 1) e).tdiv ((sc * ht ^ (d (i - 1) - d i) : Nat) : Int)).natAbs ≤ 2 ^ bt f g (d 0) (d 1) (d i - 1) := by
  obtain ⟨h1, h2, h3, h4, h5, h6, h7, h8, h9, h10, h11, h12, h13, h14⟩ := h
  have hba : d i ≤ d (i - 1) := by
    by_cases e1 : i = 1
    · subst e1; exact h2
    · have := h3 (i - 1) (by omega) (by omega); rw [show i - 1 + 1 = i by omega] at this; omega
  obtain ⟨Q, hQ⟩ := lw_rel (U := F (i - 1)) (V := F i) hba (d (i - 1) - d i + 1) (Nat.le_refl _)
  have z := lw_zero (h1 (i - 1) (by omega)).1 (h1 i (Nat.le_refl _)).1 hba (d (i - 1) - d i + 1) (Nat.le_refl _)
  have ex := sri_exact h5 hb hba (h1 i (Nat.le_refl _)).2 (A := ((F i (d i)).natAbs : Int) ^ (d (i - 1) - d i + 1)) (by rw [Int.natAbs_pow]; rfl) hQ (h1 i (Nat.le_refl _)).1 (fun c hc => z c (by omega)) e
  have hpos : 0 < sc * ht ^ (d (i - 1) - d i) := Nat.mul_pos h6 (Nat.pow_pos h7)
  have ze := z e
  generalize lw (F (i - 1)) (F i) (d (i - 1)) (d i) (d (i - 1) - d i + 1) e = X at *
  -- columns fall
  have hd1 : d i ≤ d 1 := by
    have : ∀ k, 1 ≤ k → k ≤ i → d k ≤ d 1 := by
      intro k
      induction k with
      | zero => intro a; omega
      | succ k ih =>
        intro a b
        rcases Nat.eq_zero_or_pos k with e2 | e2
        · subst e2; exact Nat.le_refl _
        · have := ih e2 (by omega); have := h3 k e2 (by omega); omega
    exact this i hi (Nat.le_refl _)
  have hfal : e < d i → fal (d 0 + d 1 - (d i - 1)) (dn (d 0 + d 1 - (d i - 1)) (d 0 + d 1 - d (i - 1) - d i) ++ (dn (d (i - 1) + 1) (d (i - 1) - d i + 1) ++ [e])) := by
    intro he
    refine fal_dn _ _ _ (by omega) (fal_mono (show d (i - 1) + 1 ≤ _ by omega) (fal_dn _ _ _ (by omega) ⟨by omega, trivial⟩))
  have hD : (dt (dn (d 0 + d 1 - (d i - 1)) (d 0 + d 1 - d (i - 1) - d i) ++ (dn (d (i - 1) + 1) (d (i - 1) - d i + 1) ++ [e])) (srs (F 0) (d 1 - (d i - 1)) ++ srs (F 1) (d 0 - (d i - 1)))).natAbs ≤ 2 ^ bt f g (d 0) (d 1) (d i - 1) ∨ X = 0 := by
    by_cases he : e < d i
    · left
      refine Nat.le_trans (dt_srs_bound (n := d 0 + 1) (m := d 1 + 1) (fun c hc => (h1 0 (by omega)).1 c (by omega)) (fun c hc => (h1 1 hi).1 c (by omega)) (hfal he)) ?_
      unfold bt
      rw [Nat.pow_add, Nat.mul_comm _ f, Nat.mul_comm _ g, Nat.pow_mul, Nat.pow_mul]
      exact Nat.mul_le_mul (Nat.pow_le_pow_left h10 _) (Nat.pow_le_pow_left h11 _)
    · right; exact ze (by omega)
  generalize (dt (dn (d 0 + d 1 - (d i - 1)) (d 0 + d 1 - d (i - 1) - d i) ++ (dn (d (i - 1) + 1) (d (i - 1) - d i + 1) ++ [e])) (srs (F 0) (d 1 - (d i - 1)) ++ srs (F 1) (d 0 - (d i - 1)))).natAbs = D at *
  generalize sc * ht ^ (d (i - 1) - d i) = N at *
  have hdv : (N : Int) ∣ X := Int.ofNat_dvd_left.2 ⟨D, ex⟩
  refine ⟨Int.mul_tdiv_cancel' hdv, ?_⟩
  rcases hD with hD | hD
  · rw [Int.natAbs_tdiv, ex]
    show N * D / N ≤ _
    rw [Nat.mul_div_cancel_left _ hpos]; exact hD
  · rw [hD]; simp
/-- the next pair: w is what is left over both numbers, turned; of degree c -/
theorem cin_next {F : Nat → Nat → Int} {d : Nat → Nat} {f g i sc ht c : Nat} {w : Nat → Int} (h : cin F d f g i sc ht) (hi : 1 ≤ i) (hb : 1 ≤ d i) (hw : ∀ e, w e = -((lw (F (i - 1)) (F i) (d (i - 1)) (d i) (d (i - 1) - d i + 1) e).tdiv ((sc * ht ^ (d (i - 1) - d i) : Nat) : Int))) (hc : w c ≠ 0) (hcz : ∀ e, c < e → w e = 0) : cin (fun k => if k = i + 1 then w else F k) (fun k => if k = i + 1 then c else d k) f g (i + 1) (F i (d i)).natAbs (if d (i - 1) - d i = 0 then ht else hk (F i (d i)).natAbs ht (d (i - 1) - d i)) := by
  have hex := cin_exact h hi hb
  obtain ⟨h1, h2, h3, h4, h5, h6, h7, h8, h9, h10, h11, h12, h13, h14⟩ := h
  have hba : d i ≤ d (i - 1) := by
    by_cases e1 : i = 1
    · subst e1; exact h2
    · have := h3 (i - 1) (by omega) (by omega); rw [show i - 1 + 1 = i by omega] at this; omega
  obtain ⟨Q, hQ⟩ := lw_rel (U := F (i - 1)) (V := F i) hba (d (i - 1) - d i + 1) (Nat.le_refl _)
  have z := lw_zero (h1 (i - 1) (by omega)).1 (h1 i (Nat.le_refl _)).1 hba (d (i - 1) - d i + 1) (Nat.le_refl _)
  have hl := (h1 i (Nat.le_refl _)).2
  have hcb : c < d i := by
    by_cases e1 : c < d i
    · exact e1
    · exfalso; apply hc; rw [hw, z c (by omega)]; simp
  -- the numbers
  have hβ : ∀ e, lw (F (i - 1)) (F i) (d (i - 1)) (d i) (d (i - 1) - d i + 1) e = (-((sc * ht ^ (d (i - 1) - d i) : Nat) : Int)) * w e := fun e => by
    rw [hw, Int.neg_mul_neg]; exact (hex e).1.symm
  have hpos : 0 < sc * ht ^ (d (i - 1) - d i) := Nat.mul_pos h6 (Nat.pow_pos h7)
  have hA : (((F i (d i)).natAbs : Int) ^ (d (i - 1) - d i + 1)).natAbs = (F i (d i)).natAbs ^ (d (i - 1) - d i + 1) := by rw [Int.natAbs_pow]; rfl
  have hlp : 0 < (F i (d i)).natAbs := by omega
  -- the next height
  have hh : (if d (i - 1) - d i = 0 then ht else hk (F i (d i)).natAbs ht (d (i - 1) - d i)) * ht ^ (d (i - 1) - d i) = (F i (d i)).natAbs ^ (d (i - 1) - d i) * ht := by
    by_cases e1 : d (i - 1) - d i = 0
    · rw [if_pos e1, e1, Nat.pow_zero, Nat.pow_zero]; omega
    · rw [if_neg e1]
      obtain ⟨M, m1, m2, -⟩ := h9 (d (i - 1) - d i) (by omega) (Nat.le_refl _)
      have := hk_eq ⟨M, m1⟩ h7
      rw [← this]
      rw [show ht ^ (d (i - 1) - d i) = ht ^ (d (i - 1) - d i - 1) * ht by rw [← Nat.pow_succ]; congr 1; omega]
      grind
  have hht' : 0 < (if d (i - 1) - d i = 0 then ht else hk (F i (d i)).natAbs ht (d (i - 1) - d i)) := by
    rcases Nat.eq_zero_or_pos (if d (i - 1) - d i = 0 then ht else hk (F i (d i)).natAbs ht (d (i - 1) - d i)) with e1 | e1
    · exfalso
      rw [e1, Nat.zero_mul] at hh
      have := Nat.mul_pos (Nat.pow_pos hlp (n := d (i - 1) - d i)) h7
      omega
    · exact e1
  have hnx := sri_next h5 (by omega) hcb hba hl hA hQ (h1 i (Nat.le_refl _)).1 hcz hβ (by rw [Int.natAbs_neg]; rfl) h6 h7 hh
  have hdi1 : ∀ k, 1 ≤ k → k ≤ i → d k ≤ d 1 := by
    intro k
    induction k with
    | zero => intro a; omega
    | succ k ih =>
      intro a b
      rcases Nat.eq_zero_or_pos k with e2 | e2
      · subst e2; exact Nat.le_refl _
      · have := ih e2 (by omega); have := h3 k e2 (by omega); omega
  have hd1 := hdi1 i hi (Nat.le_refl _)
  have hbd : (if d (i - 1) - d i = 0 then ht else hk (F i (d i)).natAbs ht (d (i - 1) - d i)) ≤ 2 ^ bt f g (d 0) (d 1) (d i) := by
    by_cases e1 : d (i - 1) - d i = 0
    · rw [if_pos e1]
      by_cases e2 : i = 1
      · rw [(h13 e2).2]; exact Nat.pow_pos (by omega)
      · exfalso
        have := h3 (i - 1) (by omega) (by omega); rw [show i - 1 + 1 = i by omega] at this; omega
    · rw [if_neg e1]
      obtain ⟨M, m1, m2, -⟩ := h9 (d (i - 1) - d i) (by omega) (Nat.le_refl _)
      have e3 := hk_eq ⟨M, m1⟩ h7
      have e4 : hk (F i (d i)).natAbs ht (d (i - 1) - d i) = M := Nat.eq_of_mul_eq_mul_left (Nat.pow_pos h7 (n := d (i - 1) - d i - 1)) (e3.trans m1.symm)
      rw [e4]
      by_cases e2 : i = 1
      · subst e2
        -- the first: a power of the top coefficient
        rw [(h13 rfl).2, Nat.one_pow, Nat.one_mul] at m1
        rw [m1]
        have a := Nat.pow_le_pow_left (l1_all (h1 1 (by omega)).1 h11 (d 1)) (d (1 - 1) - d 1)
        rw [← Nat.pow_mul] at a
        refine Nat.le_trans a (Nat.pow_le_pow_right (by omega) ?_)
        unfold bt
        rw [Nat.mul_comm]
        exact Nat.le_add_left _ _
      · rw [if_neg e2, Nat.add_zero] at m2
        refine Nat.le_trans m2 (Nat.pow_le_pow_right (by omega) (bt_le (by omega)))
  have n0 : ¬ (0 : Nat) = i + 1 := by omega
  have n1 : ¬ (1 : Nat) = i + 1 := by omega
  have ni : ¬ i = i + 1 := by omega
  refine ⟨fun k hk => ?_, ?_, fun k a b => ?_, fun k a => ?_, ?_, hlp, hht', ?_, fun k a b => ?_, ?_, ?_, fun k a b e => ?_, fun a => by omega, fun _ => ?_⟩
  · by_cases e1 : k = i + 1
    · simp only [if_pos e1]; exact ⟨hcz, hc⟩
    · simp only [if_neg e1]; exact h1 k (by omega)
  · simp only [if_neg n0, if_neg n1]; exact h2
  · by_cases e1 : k = i
    · subst e1
      simp only [if_true, if_neg ni]; exact hcb
    · simp only [if_neg (show ¬ k = i + 1 by omega), if_neg (show ¬ k + 1 = i + 1 by omega)]
      exact h3 k a (by omega)
  · by_cases e1 : k + 2 = i + 1
    · have e2 : k = i - 1 := by omega
      simp only [if_neg (show ¬ k = i + 1 by omega), if_neg (show ¬ k + 1 = i + 1 by omega), if_pos e1]
      refine ⟨((F i (d i)).natAbs : Int) ^ (d (i - 1) - d i + 1), ((sc * ht ^ (d (i - 1) - d i) : Nat) : Int), Q, Int.pow_pos (by omega), by exact_mod_cast hpos, fun e => ?_⟩
      rw [e2, show i - 1 + 1 = i by omega, hQ e, hβ e]
      grind
    · simp only [if_neg (show ¬ k = i + 1 by omega), if_neg (show ¬ k + 1 = i + 1 by omega), if_neg e1]
      exact h4 k (by omega)
  · rw [Nat.add_sub_cancel]
    simp only [if_neg n0, if_neg n1, if_neg ni, if_true]
    exact hnx
  · rw [Nat.add_sub_cancel]
    simp only [if_neg n0, if_neg n1, if_neg ni, if_true]
    omega
  · rw [Nat.add_sub_cancel] at b ⊢
    simp only [if_neg n0, if_neg n1, if_neg ni, if_true] at b ⊢
    have sp := sri_pow h5 a b hcb hba hl hA hQ (h1 i (Nat.le_refl _)).1 hcz hβ (by rw [Int.natAbs_neg]; rfl) h6 h7 hh
    refine ⟨_, sp, ?_, fun hk0 => ?_⟩
    rotate_left
    · subst hk0
      have hc0 : c = 0 := by omega
      have e1 : dn (d 0 + d 1 - (d i - d i)) (d 0 + d 1 - d (i - 1) - d i) ++ (dn (d (i - 1) + d i) (d (i - 1) - d i + d i) ++ dn (d i + c) (d i)) = dn (d 0 + d 1) (d 0 + d 1) := by
        rw [hc0, Nat.sub_self, Nat.sub_zero, Nat.add_zero, show d (i - 1) - d i + d i = d (i - 1) by omega]
        have x1 := dn_add (d (i - 1)) (d i) (d (i - 1) + d i)
        rw [Nat.add_sub_cancel_left] at x1
        rw [← x1]
        have x2 := dn_add (d 0 + d 1 - d (i - 1) - d i) (d (i - 1) + d i) (d 0 + d 1)
        rw [show d 0 + d 1 - (d 0 + d 1 - d (i - 1) - d i) = d (i - 1) + d i by omega] at x2
        rw [← x2]
        congr 1
        omega
      rw [e1, show d 1 - (d i - d i) = d 1 by omega, show d 0 - (d i - d i) = d 0 by omega] at sp
      intro h0
      rw [h0, Int.natAbs_zero, Nat.mul_zero] at sp
      have := Nat.pow_pos (n := d i) (show 0 < (w c).natAbs by omega)
      omega
    rw [if_neg (by omega), Nat.add_zero]
    refine Nat.le_trans (dt_srs_bound (n := d 0 + 1) (m := d 1 + 1) (hi := d 0 + d 1 - (d i - k)) (fun e he => (h1 0 (by omega)).1 e (by omega)) (fun e he => (h1 1 hi).1 e (by omega)) ?_) ?_
    · refine fal_dn _ _ _ (by omega) (fal_mono (show d (i - 1) + k ≤ _ by omega) (fal_dn _ _ _ (by omega) (fal_mono (show k + c ≤ _ by omega) ?_)))
      have := fal_dn k (k + c) [] (by omega) trivial
      rw [List.append_nil] at this
      exact this
    · unfold bt
      rw [Nat.pow_add, Nat.mul_comm _ f, Nat.mul_comm _ g, Nat.pow_mul, Nat.pow_mul]
      exact Nat.mul_le_mul (Nat.pow_le_pow_left h10 _) (Nat.pow_le_pow_left h11 _)
  · simp only [if_neg n0]; exact h10
  · simp only [if_neg n1]; exact h11
  · simp only [if_neg n0, if_neg n1]
    by_cases e1 : k = i + 1
    · simp only [if_pos e1, if_neg (show ¬ k - 1 = i + 1 by omega)]
      rw [hw, Int.natAbs_neg, show k - 1 = i by omega]
      exact (hex e).2
    · simp only [if_neg e1, if_neg (show ¬ k - 1 = i + 1 by omega)]
      exact h12 k a (by omega) e
  · rw [Nat.add_sub_cancel]
    simp only [if_neg n0, if_neg n1, if_neg ni]
    exact ⟨trivial, hbd⟩
theorem lim_of {n x : Nat} (h : n ≤ 2 ^ x) : (n : Int) < 2147483648 ^ (x / 31 + 1) := by
  have h1 := pow2_lt x
  have h2 : ((2 ^ x : Int).natAbs : Int) = ((2 ^ x : Nat) : Int) := by
    rw [Int.natAbs_pow]; rfl
  rw [h2] at h1
  have : (n : Int) ≤ ((2 ^ x : Nat) : Int) := by exact_mod_cast h
  omega
theorem lim_ofI {z : Int} {x : Nat} (h : z.natAbs ≤ 2 ^ x) : (z.natAbs : Int) < 2147483648 ^ (x / 31 + 1) := lim_of h
theorem lim_up {n : Int} {u v : Nat} (h : n < 2147483648 ^ u) (huv : u ≤ v) : n < 2147483648 ^ v := by
  have := ip_le (B := 2147483648) (by decide) huv
  omega
theorem cin_deg {F : Nat → Nat → Int} {d : Nat → Nat} {f g i sc ht : Nat} (h : cin F d f g i sc ht) : ∀ k, 1 ≤ k → k ≤ i → d k + (k - 1) ≤ d 1 := by
  intro k
  induction k with
  | zero => intro a; omega
  | succ k ih =>
    intro a b
    rcases Nat.eq_zero_or_pos k with e | e
    · subst e; show d 1 + 0 ≤ d 1; omega
    · have := ih e (by omega)
      have := h.2.2.1 k e (by omega)
      omega
theorem cin_ba {F : Nat → Nat → Int} {d : Nat → Nat} {f g i sc ht : Nat} (h : cin F d f g i sc ht) (hi : 1 ≤ i) : d i ≤ d (i - 1) ∧ (2 ≤ i → d i < d (i - 1) ∧ d (i - 1) ≤ d 1) := by
  by_cases e : i = 1
  · subst e; exact ⟨h.2.1, fun h => by omega⟩
  · have a := h.2.2.1 (i - 1) (by omega) (by omega)
    rw [show i - 1 + 1 = i by omega] at a
    have b := cin_deg h (i - 1) (by omega) (by omega)
    exact ⟨by omega, fun _ => ⟨a, by omega⟩⟩
/-- everything of one step fits -/
theorem cin_fit {F : Nat → Nat → Int} {d : Nat → Nat} {f g i sc ht : Nat} (h : cin F d f g i sc ht) (hi : 1 ≤ i) (hb : 1 ≤ d i) (ok : okc f g (d 0) (d 1)) : ∃ z vw pz hz mz sz : Nat, (∀ t, t ≤ d (i - 1) - d i → ∀ k, ((lw (F (i - 1)) (F i) (d (i - 1)) (d i) t k).natAbs : Int) < 2147483648 ^ z) ∧ (∀ k, ((F i k).natAbs : Int) < 2147483648 ^ vw) ∧ z + vw ≤ 158 ∧ (∀ k, k ≤ d (i - 1) - d i → (((sc : Int) * (ht : Int) ^ k).natAbs : Int) < 2147483648 ^ pz) ∧ (((ht : Int).natAbs : Int) < 2147483648 ^ hz) ∧ pz + hz ≤ 158 ∧ (∀ k, ((((lw (F (i - 1)) (F i) (d (i - 1)) (d i) (d (i - 1) - d i + 1) k).tdiv ((sc : Int) * (ht : Int) ^ (d (i - 1) - d i))).natAbs : Int) < 2147483648 ^ 48)) ∧ (∀ k, 1 ≤ k → k ≤ d (i - 1) - d i → (((hk (F i (d i)).natAbs ht k : Int).natAbs : Int) < 2147483648 ^ mz)) ∧ ((((F i (d i)).natAbs : Int).natAbs : Int) < 2147483648 ^ sz) ∧ mz + sz ≤ 158 ∧ ∀ k, ((lw (F (i - 1)) (F i) (d (i - 1)) (d i) (d (i - 1) - d i + 1) k).natAbs : Int) < 2147483648 ^ 158 := by
  obtain ⟨bu, bv, bs, bh⟩ := cin_bits h hi
  obtain ⟨hba, hba2⟩ := cin_ba h hi
  obtain ⟨o1, o2, o3⟩ := ok
  -- the numbers of bits
  obtain ⟨x, hx⟩ : ∃ x, x = (if i = 1 then f else bt f g (d 0) (d 1) (d (i - 1)) + g) := ⟨_, rfl⟩
  obtain ⟨y, hy⟩ : ∃ y, y = (if i = 1 then g else bt f g (d 0) (d 1) (d (i - 1) - 1)) := ⟨_, rfl⟩
  obtain ⟨s, hs⟩ : ∃ s, s = (if i = 1 then 0 else bt f g (d 0) (d 1) (d (i - 1)) + g) := ⟨_, rfl⟩
  obtain ⟨r, hr⟩ : ∃ r, r = (if i = 1 then 0 else bt f g (d 0) (d 1) (d (i - 1))) := ⟨_, rfl⟩
  rw [← hx] at bu
  rw [← hy] at bv
  rw [← hs] at bs
  rw [← hr] at bh
  have key : x + (d (i - 1) - d i) * (y + 1) + y ≤ 4836 ∧ s + (d (i - 1) - d i) * r + r ≤ 4836 := by
    by_cases e : i = 1
    · rw [if_pos e] at hx hy hs hr
      subst e hx hy hs hr
      exact ⟨o2, by omega⟩
    · rw [if_neg e] at hx hy hs hr
      have := o3 (d (i - 1)) (hba2 (by omega)).2 (d i) (hba2 (by omega)).1 hb
      rw [← hr] at hx hs this
      rw [← hy] at this
      have hry : r ≤ y := by rw [hr, hy]; exact bt_le (by omega)
      refine ⟨by rw [hx]; exact this, ?_⟩
      have h1 : (d (i - 1) - d i) * r ≤ (d (i - 1) - d i) * (y + 1) := Nat.mul_le_mul_left _ (by omega)
      omega
  -- the powers of the next height
  have hM : ∃ mb, (∀ k, 1 ≤ k → k ≤ d (i - 1) - d i → hk (F i (d i)).natAbs ht k ≤ 2 ^ mb) ∧ mb + y ≤ 4836 := by
    obtain ⟨h1, h2, h3, h4, h5, h6, h7, h8, h9, h10, h11, h12, h13, h14⟩ := h
    by_cases e : i = 1
    · rw [if_pos e] at hx hy
      subst e
      refine ⟨(d (1 - 1) - d 1) * g, fun k a b => ?_, ?_⟩
      · unfold hk
        rw [(h13 rfl).2, Nat.one_pow, Nat.div_one]
        have a1 := Nat.pow_le_pow_left (l1_all (h1 1 (by omega)).1 h11 (d 1)) k
        rw [← Nat.pow_mul] at a1
        refine Nat.le_trans a1 (Nat.pow_le_pow_right (by omega) ?_)
        rw [Nat.mul_comm]
        exact Nat.mul_le_mul_right _ b
      · have a1 : (d (1 - 1) - d 1) * (y + 1) = (d (1 - 1) - d 1) * y + (d (1 - 1) - d 1) := by rw [Nat.mul_add]; omega
        rw [← hy]
        omega
    · rw [if_neg e] at hx hy
      refine ⟨bt f g (d 0) (d 1) (d i), fun k a b => ?_, ?_⟩
      · obtain ⟨M, m1, m2, -⟩ := h9 k a b
        rw [if_neg e, Nat.add_zero] at m2
        have e3 := hk_eq ⟨M, m1⟩ h7
        have e4 : hk (F i (d i)).natAbs ht k = M := Nat.eq_of_mul_eq_mul_left (Nat.pow_pos h7 (n := k - 1)) (e3.trans m1.symm)
        rw [e4]
        exact Nat.le_trans m2 (Nat.pow_le_pow_right (by omega) (bt_le (by omega)))
      · -- bt at b is not above (gap) times bt at a - 1
        obtain ⟨q, hq⟩ : ∃ q, d (i - 1) - d i = q + 1 := ⟨d (i - 1) - d i - 1, by have := (hba2 (by omega)).1; omega⟩
        have a1 : ∀ j, j + 1 ≤ d (i - 1) → bt f g (d 0) (d 1) j + bt f g (d 0) (d 1) (d (i - 1)) ≤ bt f g (d 0) (d 1) (j + 1) + bt f g (d 0) (d 1) (d (i - 1) - 1) := by
          intro j hj
          unfold bt
          have hm := (hba2 (by omega)).2
          have e1 : d 1 - j = d 1 - (j + 1) + 1 := by omega
          have e2 : d 0 - j = d 0 - (j + 1) + 1 := by omega
          have e3 : d 1 - (d (i - 1) - 1) = d 1 - d (i - 1) + 1 := by omega
          have e4 : d 0 - (d (i - 1) - 1) = d 0 - d (i - 1) + 1 := by omega
          rw [e1, e2, e3, e4, Nat.add_mul, Nat.add_mul, Nat.add_mul, Nat.add_mul]
          omega
        have a2 : ∀ t, t < d (i - 1) → bt f g (d 0) (d 1) (d (i - 1) - 1 - t) ≤ (t + 1) * y := by
          intro t
          induction t with
          | zero => intro _; rw [Nat.sub_zero, ← hy]; omega
          | succ t ih =>
            intro ht
            have b1 := ih (by omega)
            have b2 := a1 (d (i - 1) - 1 - (t + 1)) (by omega)
            rw [show d (i - 1) - 1 - (t + 1) + 1 = d (i - 1) - 1 - t by omega, ← hy] at b2
            rw [Nat.add_mul (t + 1) 1 y, Nat.one_mul]
            omega
        have a3 := a2 q (by omega)
        rw [show d (i - 1) - 1 - q = d i by omega] at a3
        rw [hq] at key
        have a4 : (q + 1) * (y + 1) = (q + 1) * y + q + 1 := by rw [Nat.mul_add]; omega
        omega
  obtain ⟨mb, hM1, hM2⟩ := hM
  refine ⟨(x + (d (i - 1) - d i) * (y + 1)) / 31 + 1, y / 31 + 1, (s + (d (i - 1) - d i) * r) / 31 + 1, r / 31 + 1, mb / 31 + 1, y / 31 + 1, fun t ht k => ?_, fun k => lim_of (bv k), by omega, fun k hk => ?_, lim_of (by rw [Int.natAbs_natCast]; exact bh), by omega, fun k => ?_, fun k a b => ?_, ?_, by omega, fun k => ?_⟩
  · refine lim_of (Nat.le_trans (lw_bd bu bv t k) (Nat.pow_le_pow_right (by omega) ?_))
    exact Nat.add_le_add_left (Nat.mul_le_mul_right _ ht) _
  · rw [show (sc : Int) * (ht : Int) ^ k = ((sc * ht ^ k : Nat) : Int) by push_cast; rfl, Int.natAbs_natCast]
    refine lim_of ?_
    have a1 := Nat.mul_le_mul bs (Nat.pow_le_pow_left bh k)
    rw [← Nat.pow_mul, ← Nat.pow_add] at a1
    refine Nat.le_trans a1 (Nat.pow_le_pow_right (by omega) (Nat.add_le_add_left ?_ _))
    rw [Nat.mul_comm]; exact Nat.mul_le_mul_right _ hk
  · have a1 := (cin_exact h hi hb k).2
    rw [show ((sc * ht ^ (d (i - 1) - d i) : Nat) : Int) = (sc : Int) * (ht : Int) ^ (d (i - 1) - d i) by push_cast; rfl] at a1
    have a2 : bt f g (d 0) (d 1) (d i - 1) ≤ 1480 := Nat.le_trans (bt_le (Nat.zero_le _)) (by unfold bt; omega)
    exact lim_up (lim_of a1) (by omega)
  · rw [Int.natAbs_natCast]; exact lim_of (hM1 k a b)
  · rw [Int.natAbs_natCast]; exact lim_of (bv _)
  · have a1 : (d (i - 1) - d i + 1) * (y + 1) = (d (i - 1) - d i) * (y + 1) + (y + 1) := by rw [Nat.add_mul, Nat.one_mul]
    exact lim_up (lim_of (lw_bd bu bv _ k)) (by omega)
/-- the chain that build leaves: ends with a number, or with a link that divides the one before -/
def chs (F : Nat → Nat → Int) (d : Nat → Nat) (f g M : Nat) : Prop := ∃ sc ht, cin F d f g M sc ht ∧ (d M = 0 ∨ ∀ e, lw (F (M - 1)) (F M) (d (M - 1)) (d M) (d (M - 1) - d M + 1) e = 0)
