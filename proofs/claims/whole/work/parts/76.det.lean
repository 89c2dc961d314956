/-- the sum over the rows, along one column: D of the others -/
def ds (D : List (Nat → Int) → Int) (c : Nat) : List (Nat → Int) → List (Nat → Int) → Int
  | _, [] => 0
  | pre, r :: rs => r c * D (pre ++ rs) - ds D c (pre ++ [r]) rs
/-- the determinant of rows, over the columns cs -/
def dt : List Nat → List (Nat → Int) → Int
  | [], rows => if rows = [] then 1 else 0
  | c :: cs, rows => ds (dt cs) c [] rows
theorem dt_cons (c : Nat) (cs : List Nat) (rows : List (Nat → Int)) : dt (c :: cs) rows = ds (dt cs) c [] rows := by rw [dt]
theorem dt_nil_ne {rows : List (Nat → Int)} (h : rows ≠ []) : dt [] rows = 0 := by rw [dt, if_neg h]
/-- a row that is a sum -/
def rl (a : Int) (r : Nat → Int) (b : Int) (s : Nat → Int) (c : Nat) : Int := a * r c + b * s c
theorem ds_pre {D : List (Nat → Int) → Int} {c : Nat} {x r s : Nat → Int} {a b : Int} (hD : ∀ A B, D (A ++ x :: B) = a * D (A ++ r :: B) + b * D (A ++ s :: B)) : ∀ B P P', ds D c (P ++ x :: P') B = a * ds D c (P ++ r :: P') B + b * ds D c (P ++ s :: P') B
  | [], P, P' => by simp only [ds]; omega
  | y :: B, P, P' => by
    simp only [ds]
    have h1 := hD P (P' ++ B)
    have h2 := ds_pre (c := c) hD B P (P' ++ [y])
    simp only [List.append_assoc, List.cons_append] at h1 h2 ⊢
    rw [h1, h2]
    grind
theorem ds_lin {D : List (Nat → Int) → Int} {c : Nat} {x r s : Nat → Int} {a b : Int} (hx : x c = a * r c + b * s c) (hD : ∀ A B, D (A ++ x :: B) = a * D (A ++ r :: B) + b * D (A ++ s :: B)) (B : List (Nat → Int)) : ∀ A P, ds D c P (A ++ x :: B) = a * ds D c P (A ++ r :: B) + b * ds D c P (A ++ s :: B)
  | [], P => by
    simp only [List.nil_append, ds]
    rw [ds_pre (c := c) hD B P [], hx]
    grind
  | y :: A, P => by
    simp only [List.cons_append, ds]
    have h1 := hD (P ++ A) B
    have h2 := ds_lin hx hD B A (P ++ [y])
    simp only [List.append_assoc] at h1
    rw [h1, h2]
    grind
/-- linear in every row -/
theorem dt_lin {x r s : Nat → Int} {a b : Int} (hx : ∀ c, x c = a * r c + b * s c) : ∀ cs A B, dt cs (A ++ x :: B) = a * dt cs (A ++ r :: B) + b * dt cs (A ++ s :: B)
  | [], A, B => by
    rw [dt_nil_ne (by simp), dt_nil_ne (by simp), dt_nil_ne (by simp)]; omega
  | c :: cs, A, B => by
    rw [dt_cons, dt_cons, dt_cons]
    exact ds_lin (hx c) (dt_lin hx cs) B A []
theorem ds_pre0 {D : List (Nat → Int) → Int} {c : Nat} {r : Nat → Int} (hD : ∀ A B, D (A ++ r :: r :: B) = 0) : ∀ B P P', ds D c (P ++ r :: r :: P') B = 0
  | [], P, P' => by simp only [ds]
  | y :: B, P, P' => by
    simp only [ds]
    have h1 := hD P (P' ++ B)
    have h2 := ds_pre0 (c := c) hD B P (P' ++ [y])
    simp only [List.append_assoc, List.cons_append] at h1 h2 ⊢
    rw [h1, h2]
    omega
theorem ds_adj {D : List (Nat → Int) → Int} {c : Nat} {r : Nat → Int} (hD : ∀ A B, D (A ++ r :: r :: B) = 0) (B : List (Nat → Int)) : ∀ A P, ds D c P (A ++ r :: r :: B) = 0
  | [], P => by
    have h1 := ds_pre0 (c := c) hD B P []
    simp only [List.nil_append, ds, List.append_assoc, List.cons_append] at h1 ⊢
    rw [h1]
    omega
  | y :: A, P => by
    simp only [List.cons_append, ds]
    have h1 := hD (P ++ A) B
    have h2 := ds_adj (c := c) hD B A (P ++ [y])
    simp only [List.append_assoc] at h1
    rw [h1, h2]
    omega
/-- two neighbours that are alike -/
theorem dt_adj {r : Nat → Int} : ∀ cs A B, dt cs (A ++ r :: r :: B) = 0
  | [], A, B => dt_nil_ne (by simp)
  | c :: cs, A, B => by
    rw [dt_cons]
    exact ds_adj (dt_adj cs) B A []
theorem dt_swap (r s : Nat → Int) (cs : List Nat) (A B : List (Nat → Int)) : dt cs (A ++ r :: s :: B) = - dt cs (A ++ s :: r :: B) := by
  have h := dt_adj (r := rl 1 r 1 s) cs A B
  have hx : ∀ c, rl 1 r 1 s c = 1 * r c + 1 * s c := fun c => rfl
  rw [dt_lin hx cs A (rl 1 r 1 s :: B)] at h
  have h1 := dt_lin hx cs (A ++ [r]) B
  have h2 := dt_lin hx cs (A ++ [s]) B
  simp only [List.append_assoc, List.cons_append, List.nil_append] at h1 h2
  rw [h1, h2, dt_adj, dt_adj] at h
  omega
theorem dt_perm {l l' : List (Nat → Int)} (h : l.Perm l') : ∀ cs A, (dt cs (A ++ l)).natAbs = (dt cs (A ++ l')).natAbs := by
  induction h with
  | nil => intro cs A; rfl
  | cons x _ ih =>
    intro cs A
    have := ih cs (A ++ [x])
    simp only [List.append_assoc, List.cons_append, List.nil_append] at this
    exact this
  | swap x y l =>
    intro cs A
    rw [dt_swap, Int.natAbs_neg]
  | trans _ _ ih1 ih2 =>
    intro cs A
    rw [ih1, ih2]
/-- two rows that are alike -/
theorem dt_mem {r : Nat → Int} {cs : List Nat} {A B : List (Nat → Int)} (h : r ∈ A ∨ r ∈ B) : dt cs (A ++ r :: B) = 0 := by
  have h1 : r ∈ A ++ B := List.mem_append.2 h
  obtain ⟨C, hC⟩ : ∃ C, (A ++ B).Perm (r :: C) := by
    obtain ⟨S, T, e⟩ := List.append_of_mem h1
    exact ⟨S ++ T, by rw [e]; exact List.perm_middle⟩
  have h2 : (A ++ r :: B).Perm (r :: r :: C) := List.perm_middle.trans (List.Perm.cons r hC)
  have h3 := dt_perm h2 cs []
  simp only [List.nil_append] at h3
  have h4 := dt_adj (r := r) cs [] C
  simp only [List.nil_append] at h4
  rw [h4] at h3
  omega
theorem dt_scale {x r : Nat → Int} {a : Int} (hx : ∀ c, x c = a * r c) (cs : List Nat) (A B : List (Nat → Int)) : dt cs (A ++ x :: B) = a * dt cs (A ++ r :: B) := by
  rw [dt_lin (x := x) (r := r) (s := r) (a := a) (b := 0) (fun c => by rw [hx]; omega)]
  omega
/-- sums of rows -/
def rsum : List (Int × (Nat → Int)) → Nat → Int
  | [], _ => 0
  | p :: L, c => p.1 * p.2 c + rsum L c
/-- a row, a times, and other rows of the same matrix added -/
theorem dt_comb {a : Int} {u : Nat → Int} {cs : List Nat} {A B : List (Nat → Int)} : ∀ (L : List (Int × (Nat → Int))), (∀ p, p ∈ L → p.2 ∈ A ∨ p.2 ∈ B) → ∀ {x : Nat → Int}, (∀ c, x c = a * u c + rsum L c) → dt cs (A ++ x :: B) = a * dt cs (A ++ u :: B)
  | [], _, x, hx => dt_scale (fun c => by rw [hx]; simp only [rsum]; omega) cs A B
  | p :: L, hL, x, hx => by
    rw [dt_lin (x := x) (r := fun c => a * u c + rsum L c) (s := p.2) (a := 1) (b := p.1) (fun c => by rw [hx]; simp only [rsum]; omega)]
    rw [dt_comb L (fun q hq => hL q (List.mem_cons_of_mem _ hq)) (fun c => rfl), dt_mem (hL p (List.mem_cons_self ..))]
    omega
theorem ds_zero {D : List (Nat → Int) → Int} {c : Nat} : ∀ (rs P : List (Nat → Int)), (∀ r, r ∈ rs → r c = 0) → ds D c P rs = 0
  | [], _, _ => by simp only [ds]
  | r :: rs, P, h => by
    simp only [ds]
    rw [h r (List.mem_cons_self ..), ds_zero rs (P ++ [r]) (fun q hq => h q (List.mem_cons_of_mem _ hq))]
    omega
/-- a column with one entry alone -/
theorem dt_peel {c : Nat} {cs : List Nat} {r : Nat → Int} {A B : List (Nat → Int)} (hA : ∀ s, s ∈ A → s c = 0) (hB : ∀ s, s ∈ B → s c = 0) : (dt (c :: cs) (A ++ r :: B)).natAbs = (r c).natAbs * (dt cs (A ++ B)).natAbs := by
  have h1 := dt_perm (List.perm_middle (a := r) (l₁ := A) (l₂ := B)) (c :: cs) []
  simp only [List.nil_append] at h1
  rw [h1, dt_cons]
  simp only [ds]
  rw [ds_zero (A ++ B) _ (fun s hs => by rcases List.mem_append.1 hs with h | h; exact hA s h; exact hB s h)]
  rw [Int.sub_zero, Int.natAbs_mul, List.nil_append]
/-- v, times x to the n - 1, .., times x, and itself -/
def srs (v : Nat → Int) : Nat → List (Nat → Int)
  | 0 => []
  | n + 1 => shP v n :: srs v n
/-- the columns hi - 1, hi - 2, .. -/
def dn (hi : Nat) : Nat → List Nat
  | 0 => []
  | n + 1 => (hi - 1) :: dn (hi - 1) n
theorem dn_add (p q : Nat) : ∀ hi, dn hi (p + q) = dn hi p ++ dn (hi - p) q := by
  induction p with
  | zero => intro hi; rw [Nat.zero_add]; rfl
  | succ p ih =>
    intro hi
    rw [show p + 1 + q = (p + q) + 1 by omega]
    show (hi - 1) :: dn (hi - 1) (p + q) = (hi - 1) :: (dn (hi - 1) p ++ dn (hi - (p + 1)) q)
    rw [ih, show hi - 1 - p = hi - (p + 1) by omega]
theorem srs_mem (v : Nat → Int) {i : Nat} : ∀ {n : Nat}, i < n → shP v i ∈ srs v n
  | 0, h => by omega
  | n + 1, h => by
    by_cases e : i = n
    · subst e; exact List.mem_cons_self ..
    · exact List.mem_cons_of_mem _ (srs_mem v (by omega))
theorem srs_of {v r : Nat → Int} : ∀ {n : Nat}, r ∈ srs v n → ∃ i, i < n ∧ r = shP v i
  | 0, h => by cases h
  | n + 1, h => by
    rcases List.mem_cons.1 h with h | h
    · exact ⟨n, by omega, h⟩
    · obtain ⟨i, h1, h2⟩ := srs_of h
      exact ⟨i, by omega, h2⟩
/-- a sum of shifted rows -/
def qs (Q v : Nat → Int) : Nat → Nat → Int
  | 0, _ => 0
  | n + 1, c => qs Q v n c + Q n * shP v n c
def cl (Q v : Nat → Int) (k : Nat) : Nat → List (Int × (Nat → Int))
  | 0 => []
  | n + 1 => (- Q n, shP v (n + k)) :: cl Q v k n
theorem cl_mem {Q v : Nat → Int} {k : Nat} {p : Int × (Nat → Int)} : ∀ {n : Nat}, p ∈ cl Q v k n → ∃ t, t < n ∧ p.2 = shP v (t + k)
  | 0, h => by cases h
  | n + 1, h => by
    rcases List.mem_cons.1 h with h | h
    · exact ⟨n, by omega, by rw [h]⟩
    · obtain ⟨t, h1, h2⟩ := cl_mem h
      exact ⟨t, by omega, h2⟩
theorem cl_sum {Q v : Nat → Int} {k c : Nat} : ∀ {n : Nat}, rsum (cl Q v k n) c = if c < k then 0 else - qs Q v n (c - k)
  | 0 => by simp only [cl, rsum, qs]; split <;> rfl
  | n + 1 => by
    simp only [cl, rsum, qs]
    rw [cl_sum]
    by_cases h : c < k
    · rw [if_pos h, if_pos h]
      unfold shP; rw [if_pos (by omega)]; omega
    · rw [if_neg h, if_neg h]
      have : shP v (n + k) c = shP v n (c - k) := by
        unfold shP
        by_cases h2 : c - k < n
        · rw [if_pos h2, if_pos (by omega)]
        · rw [if_neg h2, if_neg (by omega)]; congr 1; omega
      rw [this]
      grind
theorem sh_rel {A : Int} {u v r Q : Nat → Int} {n : Nat} (h : ∀ c, A * u c = qs Q v n c + r c) (k c : Nat) : shP r k c = A * shP u k c + rsum (cl Q v k n) c := by
  rw [cl_sum]
  unfold shP
  by_cases hc : c < k
  · rw [if_pos hc, if_pos hc, if_pos hc]; omega
  · rw [if_neg hc, if_neg hc, if_neg hc, h]; omega
/-- the rows of u, A times and less rows of v, become those of the rest -/
theorem dt_repl {A : Int} {u v r Q : Nat → Int} {n N : Nat} (h : ∀ c, A * u c = qs Q v n c + r c) (cs : List Nat) : ∀ p A0, (p + n ≤ N + 1 ∨ p = 0) → dt cs (A0 ++ (srs r p ++ srs v N)) = A ^ p * dt cs (A0 ++ (srs u p ++ srs v N))
  | 0, A0, _ => by simp only [srs]; rw [Int.pow_zero, Int.one_mul]
  | p + 1, A0, hp => by
    simp only [srs, List.cons_append]
    rw [dt_comb (a := A) (u := shP u p) (cl Q v p n) (fun q hq => ?_) (fun c => sh_rel h p c)]
    · have ih := dt_repl (N := N) h cs p (A0 ++ [shP u p]) (by omega)
      simp only [List.append_assoc, List.cons_append, List.nil_append] at ih
      rw [ih, Int.pow_succ]
      grind
    · right
      obtain ⟨t, h1, h2⟩ := cl_mem hq
      rw [h2]
      exact List.mem_append.2 (Or.inr (srs_mem v (by omega)))
theorem dt_srs_scale {β : Int} {r w : Nat → Int} (h : ∀ c, r c = β * w c) (cs : List Nat) (V : List (Nat → Int)) : ∀ p A0, dt cs (A0 ++ (srs r p ++ V)) = β ^ p * dt cs (A0 ++ (srs w p ++ V))
  | 0, A0 => by simp only [srs]; rw [Int.pow_zero, Int.one_mul]
  | p + 1, A0 => by
    simp only [srs, List.cons_append]
    rw [dt_scale (x := shP r p) (r := shP w p) (a := β) (fun c => by unfold shP; split; omega; exact h _)]
    have ih := dt_srs_scale h cs V p (A0 ++ [shP w p])
    simp only [List.append_assoc, List.cons_append, List.nil_append] at ih
    rw [ih, Int.pow_succ]
    grind
/-- the top rows of v leave with their columns -/
theorem dt_run {v : Nat → Int} {b : Nat} (hv : ∀ c, b < c → v c = 0) (sel : List Nat) : ∀ n N (W : List (Nat → Int)), n ≤ N → (∀ w, w ∈ W → ∀ c, N - n + b ≤ c → w c = 0) → (dt (dn (N + b) n ++ sel) (W ++ srs v N)).natAbs = (v b).natAbs ^ n * (dt sel (W ++ srs v (N - n))).natAbs
  | 0, N, W, _, _ => by simp only [dn, List.nil_append]; rw [Nat.pow_zero, Nat.one_mul]; rfl
  | n + 1, N, W, hn, hW => by
    obtain ⟨M, rfl⟩ : ∃ M, N = M + 1 := ⟨N - 1, by omega⟩
    simp only [dn, srs, List.cons_append]
    rw [dt_peel (fun s hs => hW s hs _ (by omega)) (fun s hs => ?_)]
    · rw [show M + 1 + b - 1 = M + b by omega, dt_run hv sel n M W (by omega) (fun w hw c hc => hW w hw c (by omega)), show shP v M (M + b) = v b by unfold shP; rw [if_neg (by omega)]; congr 1; omega, Nat.pow_succ, show M + 1 - (n + 1) = M - n by omega]
      grind
    · obtain ⟨i, h1, h2⟩ := srs_of hs
      rw [h2]
      unfold shP
      rw [if_neg (by omega)]
      exact hv _ (by omega)
/-- one step of the chain: A u = Q v + r -/
theorem dt_step {A : Int} {u v r Q : Nat → Int} {a b j n rb : Nat} (h : ∀ c, A * u c = qs Q v (a - b + 1) c + r c) (hab : b ≤ a) (hv : ∀ c, b < c → v c = 0) (hr : ∀ c, rb ≤ c → r c = 0) (hj : j < b) (hn : n ≤ a - j) (hrb : rb + n ≤ a + 1) (sel : List Nat) : A.natAbs ^ (b - j) * (dt (dn (a + b - j) n ++ sel) (srs u (b - j) ++ srs v (a - j))).natAbs = (v b).natAbs ^ n * (dt sel (srs r (b - j) ++ srs v (a - j - n))).natAbs := by
  have h1 := dt_repl h (dn (a + b - j) n ++ sel) (N := a - j) (b - j) [] (by omega)
  simp only [List.nil_append] at h1
  have h2 := congrArg Int.natAbs h1
  rw [Int.natAbs_mul, Int.natAbs_pow] at h2
  rw [← h2, show a + b - j = a - j + b by omega, dt_run hv sel n (a - j) _ hn (fun w hw c hc => ?_)]
  obtain ⟨i, g1, g2⟩ := srs_of hw
  rw [g2]
  unfold shP
  split
  · rfl
  · exact hr _ (by omega)
