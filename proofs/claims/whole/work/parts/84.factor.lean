theorem dv_cons (x : Int) (q : Nat → Int) : ∀ n, dv x q (n + 1) = q 0 + x * dv x (fun k => q (k + 1)) n
  | 0 => by simp [dv]
  | n + 1 => by
    show dv x q (n + 1) + q (n + 1) * x ^ (n + 1) = q 0 + x * (dv x _ n + q (n + 1) * x ^ n)
    rw [dv_cons x q n, Int.pow_succ]; grind
theorem l1_cons (q : Nat → Int) : ∀ n, l1 q (n + 1) = (q 0).natAbs + l1 (fun k => q (k + 1)) n
  | 0 => by simp [l1]
  | n + 1 => by
    show l1 q (n + 1) + (q (n + 1)).natAbs = (q 0).natAbs + (l1 _ n + (q (n + 1)).natAbs)
    rw [l1_cons q n]; omega
/-- a polynomial over x - x0 -/
theorem syn (x0 : Int) : ∀ n (q : Nat → Int), ∃ r : Nat → Int, (∀ x, dv x q (n + 1) = dv x0 q (n + 1) + (x - x0) * dv x r n) ∧ l1 q (n + 1) ≤ (dv x0 q (n + 1)).natAbs + (1 + x0.natAbs) * l1 r n
  | 0, q => ⟨fun _ => 0, fun x => by simp [dv], by simp [l1, dv]⟩
  | n + 1, q => by
    obtain ⟨r, h1, h2⟩ := syn x0 n (fun k => q (k + 1))
    refine ⟨fun k => if k = 0 then dv x0 (fun k => q (k + 1)) (n + 1) else r (k - 1), fun x => ?_, ?_⟩
    · rw [dv_cons x q, dv_cons x0 q, h1 x, dv_cons x (fun k => if k = 0 then dv x0 (fun k => q (k + 1)) (n + 1) else r (k - 1)) n]
      have e : dv x (fun k => (fun k => if k = 0 then dv x0 (fun k => q (k + 1)) (n + 1) else r (k - 1)) (k + 1)) n = dv x r n := by
        congr 1
      rw [e]
      simp only [if_true]
      grind
    · rw [l1_cons q, l1_cons (fun k => if k = 0 then dv x0 (fun k => q (k + 1)) (n + 1) else r (k - 1)) n]
      have e : l1 (fun k => (fun k => if k = 0 then dv x0 (fun k => q (k + 1)) (n + 1) else r (k - 1)) (k + 1)) n = l1 r n := by
        congr 1
      rw [e]
      simp only [if_true]
      have h3 := dv_cons x0 q (n + 1)
      generalize dv x0 (fun k => q (k + 1)) (n + 1) = A at *
      generalize dv x0 q (n + 1 + 1) = C at *
      have h4 : (q 0).natAbs ≤ C.natAbs + x0.natAbs * A.natAbs := by
        rw [show q 0 = C - x0 * A by omega, ← Int.natAbs_mul]
        exact Int.natAbs_sub_le _ _
      have h5 : (1 + x0.natAbs) * (A.natAbs + l1 r n) = A.natAbs + x0.natAbs * A.natAbs + (1 + x0.natAbs) * l1 r n := by grind
      omega
/-- a bound for the coefficients, from bounds at places -/
def fb : Nat → List (Int × Nat) → Nat
  | 0, _ => 0
  | _, [] => 0
  | n + 1, p :: l => p.2 + (1 + p.1.natAbs) * fb n (l.map (fun s => (s.1, (s.2 + p.2) / (s.1 - p.1).natAbs)))
theorem fb_ok : ∀ n (q : Nat → Int) (l : List (Int × Nat)), l.length = n → (l.map Prod.fst).Nodup → (∀ p, p ∈ l → (dv p.1 q n).natAbs ≤ p.2) → l1 q n ≤ fb n l
  | 0, q, l, _, _, _ => Nat.le_refl _
  | n + 1, q, [], h, _, _ => by simp at h
  | n + 1, q, p :: l, h, hn, hb => by
    obtain ⟨r, h1, h2⟩ := syn p.1 n q
    simp only [List.map_cons, List.nodup_cons] at hn
    have h3 := hb p (List.mem_cons_self ..)
    have ih := fb_ok n r (l.map (fun s => (s.1, (s.2 + p.2) / (s.1 - p.1).natAbs))) (by simpa using h) (by
      rw [List.map_map]; exact hn.2) (fun s hs => by
      obtain ⟨t, ht, rfl⟩ := List.mem_map.1 hs
      have h4 := hb t (List.mem_cons_of_mem _ ht)
      have h5 := h1 t.1
      have hne : t.1 ≠ p.1 := fun e => hn.1 (by rw [← e]; exact List.mem_map.2 ⟨t, ht, rfl⟩)
      show (dv t.1 r n).natAbs ≤ (t.2 + p.2) / (t.1 - p.1).natAbs
      rw [Nat.le_div_iff_mul_le (by omega), Nat.mul_comm, ← Int.natAbs_mul, show (t.1 - p.1) * dv t.1 r n = dv t.1 q (n + 1) - dv p.1 q (n + 1) by omega]
      exact Nat.le_trans (Int.natAbs_sub_le _ _) (Nat.add_le_add h4 h3))
    show l1 q (n + 1) ≤ p.2 + (1 + p.1.natAbs) * fb n _
    refine Nat.le_trans h2 (Nat.add_le_add h3 (Nat.mul_le_mul_left _ ih))
/-- of n coefficients, not all 0: fewer than n roots -/
theorem few : ∀ n (g : Nat → Int) (l : List Int), l.Nodup → (∃ k, k < n ∧ g k ≠ 0) → l.length + 1 ≤ (l.filter (fun x => dv x g n ≠ 0)).length + n
  | 0, g, l, _, ⟨k, hk, _⟩ => by omega
  | n + 1, g, l, hl, ⟨k, hk, hk0⟩ => by
    by_cases hz : ∃ x, x ∈ l ∧ dv x g (n + 1) = 0
    · obtain ⟨x0, hx0, hz0⟩ := hz
      obtain ⟨r, h1, h2⟩ := syn x0 n g
      rw [hz0] at h1 h2
      obtain ⟨A, C, rfl⟩ := List.append_of_mem hx0
      have hnd : (A ++ C).Nodup := by
        rw [List.nodup_append] at hl ⊢
        simp only [List.nodup_cons] at hl
        exact ⟨hl.1, hl.2.1.2, fun a ha b hb => hl.2.2 a ha b (List.mem_cons_of_mem _ hb)⟩
      have hne : ∀ x, x ∈ A ++ C → x ≠ x0 := by
        intro x hx e
        subst e
        rw [List.nodup_append] at hl
        simp only [List.nodup_cons] at hl
        rcases List.mem_append.1 hx with h | h
        · exact hl.2.2 x h x (List.mem_cons_self ..) rfl
        · exact hl.2.1.1 h
      have hr : ∃ k, k < n ∧ r k ≠ 0 := by
        refine Classical.byContradiction (fun hc => ?_)
        have h3 : ∀ N, N ≤ n → l1 r N = 0 := by
          intro N
          induction N with
          | zero => intro _; rfl
          | succ N ih =>
            intro hN
            show l1 r N + (r N).natAbs = 0
            have : r N = 0 := Classical.byContradiction (fun h => hc ⟨N, by omega, h⟩)
            rw [ih (by omega), this]; rfl
        rw [h3 n (Nat.le_refl _)] at h2
        have h4 : ∀ N, k < N → (g k).natAbs ≤ l1 g N := by
          intro N
          induction N with
          | zero => intro h; omega
          | succ N ih =>
            intro h
            show _ ≤ l1 g N + (g N).natAbs
            by_cases e : k = N
            · subst e; omega
            · have := ih (by omega); omega
        have := h4 (n + 1) hk
        have h6 : (0 : Int).natAbs = 0 := rfl
        rw [h6] at h2
        omega
      have ih := few n r (A ++ C) hnd hr
      have hf : ((A ++ x0 :: C).filter (fun x => dv x g (n + 1) ≠ 0)).length = ((A ++ C).filter (fun x => dv x r n ≠ 0)).length := by
        have e1 : (A ++ x0 :: C).filter (fun x => dv x g (n + 1) ≠ 0) = (A ++ C).filter (fun x => dv x g (n + 1) ≠ 0) := by
          simp [List.filter_append, List.filter_cons, hz0]
        rw [e1]
        congr 1
        apply List.filter_congr
        intro x hx
        have h7 := hne x hx
        have h8 := h1 x
        have : (dv x g (n + 1) ≠ 0) ↔ (dv x r n ≠ 0) := by
          rw [h8]
          constructor
          · intro h e; apply h; rw [e]; omega
          · intro h e
            have h9 : (x - x0) * dv x r n = 0 := by omega
            rcases Int.mul_eq_zero.1 h9 with h10 | h10
            · omega
            · exact h h10
        simp [this]
      rw [hf]
      simp only [List.length_append, List.length_cons] at ih ⊢
      omega
    · have : l.filter (fun x => dv x g (n + 1) ≠ 0) = l := by
        rw [List.filter_eq_self]
        intro x hx
        simp only [ne_eq, decide_not, Bool.not_eq_eq_eq_not, Bool.not_true, decide_eq_false_iff_not]
        exact fun e => hz ⟨x, hx, e⟩
      rw [this]; omega
/-- the bound of |P| at x: 9 coefficients up to 2^31 -/
def pmx (x : Int) : Nat := 2147483648 * (1 + x.natAbs * (1 + x.natAbs * (1 + x.natAbs * (1 + x.natAbs * (1 + x.natAbs * (1 + x.natAbs * (1 + x.natAbs * (1 + x.natAbs))))))))
/-- every choice of k among the places -/
def ck (lim : Nat) : List Int → Nat → List Int → Bool
  | _, 0, acc => decide (fb acc.length (acc.map (fun x => (x, pmx x))) ≤ lim)
  | [], _ + 1, _ => true
  | x :: xs, k + 1, acc => ck lim xs (k + 1) acc && ck lim xs k (acc ++ [x])
theorem ck_ok {lim : Nat} : ∀ (xs : List Int) (k : Nat) (acc : List Int), ck lim xs k acc = true → ∀ s : List Int, s.Sublist xs → s.length = k → fb (acc ++ s).length ((acc ++ s).map (fun x => (x, pmx x))) ≤ lim
  | xs, 0, acc, h, s, _, hl => by
    have : s = [] := List.length_eq_zero_iff.1 hl
    subst this
    rw [List.append_nil]
    unfold ck at h
    exact of_decide_eq_true h
  | [], k + 1, acc, _, s, hs, hl => by
    have := List.eq_nil_of_sublist_nil hs
    subst this; simp at hl
  | x :: xs, k + 1, acc, h, s, hs, hl => by
    unfold ck at h
    rw [Bool.and_eq_true] at h
    cases hs with
    | cons _ hs => exact ck_ok xs (k + 1) acc h.1 s hs hl
    | cons_cons _ hs =>
      rename_i s'
      have := ck_ok xs k (acc ++ [x]) h.2 s' hs (by simpa using hl)
      simpa [List.append_assoc] using this
def nds : List Int := [0, -1, 1, -2, 2, -3, 3, -4, 4]
theorem ck_all : ∀ k, k < 9 → ck 4503599627370496 nds k [] = true := by decide +kernel
theorem ck_9 : ck 281474976710656 nds 9 [] = true := by decide +kernel
def hs (a : Nat) : Nat → Nat
  | 0 => 0
  | n + 1 => 1 + a * hs a n
theorem dv_hs {x : Int} {H : Nat} : ∀ {n : Nat} {q : Nat → Int}, (∀ k, k < n → (q k).natAbs ≤ H) → (dv x q n).natAbs ≤ H * hs x.natAbs n
  | 0, _, _ => by simp [dv]
  | n + 1, q, h => by
    rw [dv_cons]
    have ih := dv_hs (x := x) (n := n) (q := fun k => q (k + 1)) (fun k hk => h (k + 1) (by omega))
    have h0 := h 0 (by omega)
    have h1 := Int.natAbs_add_le (q 0) (x * dv x (fun k => q (k + 1)) n)
    rw [Int.natAbs_mul] at h1
    have h2 := Nat.mul_le_mul_left x.natAbs ih
    show _ ≤ H * (1 + x.natAbs * hs x.natAbs n)
    have : H * (1 + x.natAbs * hs x.natAbs n) = H + x.natAbs * (H * hs x.natAbs n) := by grind
    omega
theorem pmx_hs (x : Int) : pmx x = 2147483648 * hs x.natAbs 9 := by
  unfold pmx
  simp only [hs]
  rw [Nat.mul_zero, Nat.add_zero, Nat.mul_one]
/-- a factor's coefficients: P = q g -/
theorem fac_bd {P q g : Nat → Int} {n m : Nat} (hP : ∀ k, k < 9 → (P k).natAbs ≤ 2147483648) (hv : ∀ x : Int, dv x P 9 = dv x q n * dv x g m) (hnm : n + m ≤ 10) (hg : ∃ k, k < m ∧ g k ≠ 0) (hn : n < 9) : l1 q n ≤ 4503599627370496 := by
  have hN : nds.Nodup := by decide
  have h1 := few m g nds hN hg
  have hl : nds.length = 9 := rfl
  obtain ⟨k0, hk0, _⟩ := hg
  -- the first n of them
  have hs1 : ((nds.filter (fun x => dv x g m ≠ 0)).take n).Sublist nds := (List.take_sublist _ _).trans List.filter_sublist
  have hlen : ((nds.filter (fun x => dv x g m ≠ 0)).take n).length = n := by
    rw [List.length_take]; omega
  have h2 := ck_ok nds n [] (ck_all n hn) _ hs1 hlen
  simp only [List.nil_append] at h2
  rw [hlen] at h2
  refine Nat.le_trans (fb_ok n q _ (by rw [List.length_map, hlen]) ?_ (fun p hp => ?_)) h2
  · rw [List.map_map]
    have : (Prod.fst ∘ fun x : Int => (x, pmx x)) = id := rfl
    rw [this, List.map_id]
    exact hN.sublist hs1
  · obtain ⟨x, hx, rfl⟩ := List.mem_map.1 hp
    have hx2 := (List.take_sublist _ _).subset hx
    have hx3 := (List.mem_filter.1 hx2).2
    have hgx : dv x g m ≠ 0 := by simpa using hx3
    have h3 := dv_hs (x := x) hP
    rw [← pmx_hs, hv, Int.natAbs_mul] at h3
    show (dv x q n).natAbs ≤ pmx x
    exact Nat.le_trans (Nat.le_mul_of_pos_right _ (by omega)) h3
