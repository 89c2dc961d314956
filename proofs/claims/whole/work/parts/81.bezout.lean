theorem ds_ext {D E : List (Nat → Int) → Int} {c : Nat} (h : ∀ l, D l = E l) (l P : List (Nat → Int)) : ds D c P l = ds E c P l := by
  rw [show D = E from funext h]
theorem ds_D {F G : List (Nat → Int) → Int} {c : Nat} (k : Int) : ∀ l Q, ds (fun y => F y + k * G y) c Q l = ds F c Q l + k * ds G c Q l
  | [], Q => by simp only [ds]; omega
  | r :: l, Q => by simp only [ds]; rw [ds_D k l]; grind
theorem ds_nul {c : Nat} : ∀ l Q, ds (fun _ => 0) c Q l = 0
  | [], Q => by simp only [ds]
  | r :: l, Q => by simp only [ds]; rw [ds_nul l]; omega
theorem ds_sh {D : List (Nat → Int) → Int} {c : Nat} (P : List (Nat → Int)) : ∀ l Q, ds (fun y => D (P ++ y)) c Q l = ds D c (P ++ Q) l
  | [], Q => by simp only [ds]
  | r :: l, Q => by
    simp only [ds]
    rw [ds_sh P l]
    simp only [List.append_assoc]
/-- -1 to the n -/
def sgn (n : Nat) : Int := if n % 2 = 0 then 1 else -1
theorem sgn_s (n : Nat) : sgn (n + 1) = - sgn n := by
  unfold sgn
  rcases Nat.mod_two_eq_zero_or_one n with h | h
  · rw [if_pos h, if_neg (show ¬ (n + 1) % 2 = 0 by omega)]
  · rw [if_neg (show ¬ n % 2 = 0 by omega), if_pos (show (n + 1) % 2 = 0 by omega)]; rfl
theorem ds_app {D : List (Nat → Int) → Int} {e : Nat} (m : List (Nat → Int)) : ∀ P Q, ds D e Q (P ++ m) = ds (fun x => D (x ++ m)) e Q P + sgn P.length * ds D e (Q ++ P) m
  | [], Q => by
    simp only [List.nil_append, ds, List.length_nil, List.append_nil]
    rw [show sgn 0 = 1 from rfl]; omega
  | p :: P, Q => by
    simp only [List.cons_append, ds, List.length_cons]
    rw [ds_app m P (Q ++ [p]), sgn_s]
    simp only [List.append_assoc, List.cons_append, List.nil_append]
    grind
theorem ds_two {D : List (Nat → Int) → Int} {c e : Nat} : ∀ l P, ds (fun m => ds D e [] m) c P l + ds (fun m => ds D c [] m) e P l = ds (fun y => ds (fun x => D (x ++ y)) e [] P) c [] l + ds (fun y => ds (fun x => D (x ++ y)) c [] P) e [] l
  | [], P => by simp only [ds]
  | r :: l, P => by
    have ih := ds_two (D := D) (c := c) (e := e) l (P ++ [r])
    have a1 : ∀ f : Nat, ∀ y, ds (fun x => D (x ++ y)) f [] (P ++ [r]) = ds (fun x => D (x ++ ([r] ++ y))) f [] P + (sgn P.length * r f) * D (P ++ y) := fun f y => by
      rw [ds_app [r] P []]
      simp only [ds, List.nil_append, List.append_nil, List.append_assoc]
      grind
    rw [ds_ext (a1 e), ds_ext (a1 c), ds_D, ds_D, ds_sh, ds_sh, List.append_nil] at ih
    simp only [ds]
    have a2 := ds_app (D := D) (e := e) l P []
    have a3 := ds_app (D := D) (e := c) l P []
    simp only [List.nil_append] at a2 a3
    rw [a2, a3]
    have a4 := ds_sh (D := fun y => ds (fun x => D (x ++ y)) e [] P) (c := c) [r] l []
    have a5 := ds_sh (D := fun y => ds (fun x => D (x ++ y)) c [] P) (c := e) [r] l []
    simp only [List.append_nil] at a4 a5
    simp only [List.nil_append]
    rw [← a4, ← a5]
    generalize ds (fun y => ds (fun x => D (x ++ ([r] ++ y))) e [] P) c [] l = A1 at *
    generalize ds (fun y => ds (fun x => D (x ++ ([r] ++ y))) c [] P) e [] l = A2 at *
    generalize ds (fun m => ds D e [] m) c (P ++ [r]) l = A3 at *
    generalize ds (fun m => ds D c [] m) e (P ++ [r]) l = A4 at *
    generalize ds D c P l = A5 at *
    generalize ds D e P l = A6 at *
    generalize sgn P.length = A7 at *
    clear a1 a2 a3 a4 a5
    grind
theorem dt_col (c e : Nat) (cs : List Nat) (l : List (Nat → Int)) : dt (c :: e :: cs) l = - dt (e :: c :: cs) l := by
  have h := ds_two (D := dt cs) (c := c) (e := e) l []
  simp only [ds] at h
  rw [ds_nul, ds_nul] at h
  have e1 : dt (c :: e :: cs) l = ds (fun m => ds (dt cs) e [] m) c [] l := by
    rw [dt_cons]; exact ds_ext (fun m => dt_cons e cs m) _ _
  have e2 : dt (e :: c :: cs) l = ds (fun m => ds (dt cs) c [] m) e [] l := by
    rw [dt_cons]; exact ds_ext (fun m => dt_cons c cs m) _ _
  rw [e1, e2]
  omega
/-- a column that is there twice -/
theorem dt_col0 {c : Nat} : ∀ {cs : List Nat}, c ∈ cs → ∀ l, dt (c :: cs) l = 0
  | [], h, _ => by cases h
  | e :: cs, h, l => by
    by_cases he : c = e
    · subst he
      have := dt_col c c cs l
      omega
    · have h1 : c ∈ cs := by
        rcases List.mem_cons.1 h with h | h
        · exact absurd h he
        · exact h
      rw [dt_col, dt_cons, ds_ext (dt_col0 h1), ds_nul]
      rfl
theorem ds_srs {F : Nat → Int} {cs : List Nat} {LF : Nat} (hL : ∀ k, rs (shP F k) cs ≤ LF) (l : List (Nat → Int)) : ∀ m P, ∃ α : Nat → Int, (∀ c, ds (dt cs) c P (srs F m ++ l) = qs α F m c + sgn m * ds (dt cs) c (P ++ srs F m) l) ∧ ∀ k, (α k).natAbs * LF ≤ rp cs P * LF ^ m * rp cs l
  | 0, P => ⟨fun _ => 0, fun c => by simp only [srs, List.nil_append, List.append_nil, qs]; rw [show sgn 0 = 1 from rfl]; omega, fun k => by simp⟩
  | m + 1, P => by
    obtain ⟨α, h1, h2⟩ := ds_srs hL l m (P ++ [shP F m])
    refine ⟨fun k => if k = m then dt cs (P ++ (srs F m ++ l)) else - α k, fun c => ?_, fun k => ?_⟩
    · simp only [srs, List.cons_append, ds]
      rw [h1 c, sgn_s]
      have e1 : ∀ N, N ≤ m → qs (fun k => if k = m then dt cs (P ++ (srs F m ++ l)) else - α k) F N c = - qs α F N c := by
        intro N
        induction N with
        | zero => intro _; simp only [qs]; omega
        | succ N ih =>
          intro hN
          simp only [qs]
          rw [ih (by omega), if_neg (by omega)]; grind
      have e2 : qs (fun k => if k = m then dt cs (P ++ (srs F m ++ l)) else - α k) F (m + 1) c = - qs α F m c + dt cs (P ++ (srs F m ++ l)) * shP F m c := by
        show qs _ F m c + (if m = m then dt cs (P ++ (srs F m ++ l)) else - α m) * shP F m c = _
        rw [e1 m (Nat.le_refl _), if_pos rfl]
      rw [e2]
      simp only [List.append_assoc, List.cons_append, List.nil_append]
      grind
    · have hm : ∀ N, rp cs (srs F N) ≤ LF ^ N := by
        intro N
        induction N with
        | zero => exact Nat.le_refl _
        | succ N ih =>
          simp only [srs, rp]
          rw [Nat.pow_succ, Nat.mul_comm]
          exact Nat.mul_le_mul ih (hL N)
      by_cases hk : k = m
      · subst hk
        simp only [if_true]
        have a := dt_bound cs (P ++ (srs F k ++ l))
        rw [rp_app, rp_app] at a
        have b : rp cs P * (rp cs (srs F k) * rp cs l) ≤ rp cs P * (LF ^ k * rp cs l) := Nat.mul_le_mul_left _ (Nat.mul_le_mul_right _ (hm k))
        have c := Nat.mul_le_mul_right LF (Nat.le_trans a b)
        refine Nat.le_trans c (Nat.le_of_eq ?_)
        rw [Nat.pow_succ]; grind
      · show (if k = m then dt cs (P ++ (srs F m ++ l)) else - α k).natAbs * LF ≤ _
        rw [if_neg hk, Int.natAbs_neg]
        have a := h2 k
        rw [rp_app] at a
        simp only [rp, Nat.mul_one] at a
        refine Nat.le_trans a ?_
        have b : rp cs P * rs (shP F m) cs * LF ^ m * rp cs l ≤ rp cs P * LF * LF ^ m * rp cs l := Nat.mul_le_mul_right _ (Nat.mul_le_mul_right _ (Nat.mul_le_mul_left _ (hL m)))
        refine Nat.le_trans b (Nat.le_of_eq ?_)
        rw [Nat.pow_succ]; grind
theorem dt_front (e : Nat) (B : List Nat) : ∀ A : List Nat, ∃ s : Int, (s = 1 ∨ s = -1) ∧ ∀ l, dt (A ++ e :: B) l = s * dt (e :: (A ++ B)) l
  | [] => ⟨1, Or.inl rfl, fun l => by simp only [List.nil_append]; omega⟩
  | a :: A => by
    obtain ⟨s, hs, h⟩ := dt_front e B A
    refine ⟨-s, by omega, fun l => ?_⟩
    simp only [List.cons_append]
    rw [dt_cons, ds_ext (E := fun m => (fun _ => (0 : Int)) m + s * dt (e :: (A ++ B)) m) (fun m => by rw [h]; show _ = 0 + _; omega), ds_D, ds_nul, ← dt_cons, dt_col]
    grind
theorem qs_zero {Q v : Nat → Int} {b n c : Nat} (hv : ∀ k, b < k → v k = 0) (hc : n + b ≤ c) : qs Q v n c = 0 := by
  have : ∀ N, N ≤ n → qs Q v N c = 0 := by
    intro N
    induction N with
    | zero => intro _; rfl
    | succ N ih =>
      intro hN
      show qs Q v N c + Q N * shP v N c = 0
      rw [ih (by omega)]
      unfold shP
      split
      · omega
      · rw [hv _ (by omega)]; omega
  exact this n (Nat.le_refl _)
/-- sums of multiples of F and of G that are one power alone -/
theorem bezout {F G : Nat → Int} {n m e : Nat} (hF : ∀ c, n < c → F c = 0) (hG : ∀ c, m < c → G c = 0) (he : e < n + m) : ∃ (α β : Nat → Int) (R : Int), R.natAbs = (dt (dn (n + m) (n + m)) (srs F m ++ srs G n)).natAbs ∧ (∀ c, qs α F m c + qs β G n c = if c = e then R else 0) ∧ (∀ k, (α k).natAbs * l1 F (n + 1) ≤ l1 F (n + 1) ^ m * l1 G (m + 1) ^ n) ∧ ∀ k, (β k).natAbs * l1 G (m + 1) ≤ l1 F (n + 1) ^ m * l1 G (m + 1) ^ n := by
  -- the other columns
  have hcol : dn (n + m) (n + m) = dn (n + m) (n + m - 1 - e) ++ e :: dn e e := by
    have h1 := dn_add (n + m - 1 - e) (e + 1) (n + m)
    rw [show n + m - 1 - e + (e + 1) = n + m by omega, show n + m - (n + m - 1 - e) = e + 1 by omega] at h1
    rw [h1]; rfl
  have hfal : fal (n + m) (dn (n + m) (n + m - 1 - e) ++ dn e e) := by
    refine fal_dn _ _ _ (by omega) ?_
    have := fal_dn e e [] (Nat.le_refl _) trivial
    rw [List.append_nil] at this
    exact fal_mono (by omega) this
  obtain ⟨s, hs, hfront⟩ := dt_front e (dn e e) (dn (n + m) (n + m - 1 - e))
  have hLF : ∀ k, rs (shP F k) (dn (n + m) (n + m - 1 - e) ++ dn e e) ≤ l1 F (n + 1) := fun k => rs_sh (fun c hc => hF c (by omega)) k hfal
  have hLG : ∀ k, rs (shP G k) (dn (n + m) (n + m - 1 - e) ++ dn e e) ≤ l1 G (m + 1) := fun k => rs_sh (fun c hc => hG c (by omega)) k hfal
  generalize hcs : dn (n + m) (n + m - 1 - e) ++ dn e e = cs at *
  have hmem : ∀ c, c < n + m → c ≠ e → c ∈ cs := by
    have dm : ∀ k hi c, c < hi → hi ≤ c + k → c ∈ dn hi k := by
      intro k
      induction k with
      | zero => intro hi c h1 h2; omega
      | succ k ih =>
        intro hi c h1 h2
        show c ∈ (hi - 1) :: dn (hi - 1) k
        by_cases hc : c = hi - 1
        · rw [hc]; exact List.mem_cons_self ..
        · exact List.mem_cons_of_mem _ (ih (hi - 1) c (by omega) (by omega))
    intro c h1 h2
    rw [← hcs]
    by_cases h3 : e < c
    · exact List.mem_append.2 (Or.inl (dm _ _ _ h1 (by omega)))
    · exact List.mem_append.2 (Or.inr (dm _ _ _ (by omega) (by omega)))
  obtain ⟨α, a1, a2⟩ := ds_srs hLF (srs G n) m []
  obtain ⟨β, b1, b2⟩ := ds_srs hLG [] n (srs F m)
  simp only [List.nil_append, List.append_nil, ds, rp, Nat.one_mul, Nat.mul_one] at a1 a2 b1 b2
  have hFm : rp cs (srs F m) ≤ l1 F (n + 1) ^ m := rp_srs (fun c hc => hF c (by omega)) hfal m
  have hGn : rp cs (srs G n) ≤ l1 G (m + 1) ^ n := rp_srs (fun c hc => hG c (by omega)) hfal n
  have hsum : ∀ c, dt (c :: cs) (srs F m ++ srs G n) = qs α F m c + qs (fun k => sgn m * β k) G n c := by
    intro c
    rw [dt_cons, a1 c, b1 c]
    have : ∀ N, qs (fun k => sgn m * β k) G N c = sgn m * qs β G N c := by
      intro N
      induction N with
      | zero => simp only [qs]; omega
      | succ N ih => simp only [qs]; rw [ih]; grind
    rw [this]; grind
  refine ⟨α, fun k => sgn m * β k, dt (e :: cs) (srs F m ++ srs G n), ?_, fun c => ?_, fun k => ?_, fun k => ?_⟩
  · rw [hcol, hfront]
    rcases hs with h | h
    · rw [h, Int.one_mul]
    · rw [h, Int.neg_mul, Int.one_mul, Int.natAbs_neg]
  · rw [← hsum]
    by_cases hc : c = e
    · rw [if_pos hc, hc]
    · rw [if_neg hc]
      by_cases hcn : c < n + m
      · exact dt_col0 (hmem c hcn hc) _
      · rw [hsum, qs_zero hF (by omega), qs_zero hG (by omega)]; rfl
  · exact Nat.le_trans (a2 k) (Nat.mul_le_mul_left _ hGn)
  · have h1 : (sgn m * β k).natAbs = (β k).natAbs := by
      unfold sgn; split
      · rw [Int.one_mul]
      · rw [Int.neg_mul, Int.one_mul, Int.natAbs_neg]
    rw [h1]
    refine Nat.le_trans (b2 k) ?_
    exact Nat.mul_le_mul hFm (Nat.le_refl _)
