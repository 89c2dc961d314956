/-- the pair u, v of a chain that began with F, G: its minors are those of F, G, up to powers of two numbers -/
def sri (F G : Nat → Int) (n m : Nat) (u v : Nat → Int) (a b sc ht : Nat) : Prop := ∀ j, j < b → ∀ sel, (dt sel (srs u (b - j) ++ srs v (a - j))).natAbs = sc ^ (b - j) * ht ^ (a - j - 1) * (dt (dn (n + m - j) (n + m - a - b) ++ sel) (srs F (m - j) ++ srs G (n - j))).natAbs
theorem sri_0 (F G : Nat → Int) (n m : Nat) : sri F G n m F G n m 1 1 := by
  intro j hj sel
  rw [show n + m - n - m = 0 by omega, Nat.one_pow, Nat.one_pow, Nat.one_mul]
  rfl
theorem dt_one (e : Nat) (r : Nat → Int) : dt [e] [r] = r e := by
  rw [dt_cons]
  simp only [ds, List.nil_append]
  rw [dt, if_pos rfl]
  omega
theorem shP_0 (r : Nat → Int) : shP r 0 = r := by
  funext c; unfold shP; rw [if_neg (by omega), Nat.sub_zero]
theorem npow_pos {a : Nat} (h : 0 < a) (n : Nat) : 0 < a ^ n := Nat.pow_pos h
/-- the rest can be divided by both -/
theorem sri_exact {F G : Nat → Int} {n m : Nat} {u v r Q : Nat → Int} {a b sc ht : Nat} {A : Int} (hi : sri F G n m u v a b sc ht) (hb : 0 < b) (hab : b ≤ a) (hl : v b ≠ 0) (hA : A.natAbs = (v b).natAbs ^ (a - b + 1)) (h : ∀ c, A * u c = qs Q v (a - b + 1) c + r c) (hv : ∀ c, b < c → v c = 0) (hr : ∀ c, b ≤ c → r c = 0) (e : Nat) : (r e).natAbs = sc * ht ^ (a - b) * (dt (dn (n + m - (b - 1)) (n + m - a - b) ++ (dn (a + 1) (a - b + 1) ++ [e])) (srs F (m - (b - 1)) ++ srs G (n - (b - 1)))).natAbs := by
  have h1 := dt_step (j := b - 1) (n := a - b + 1) h hab hv hr (by omega) (by omega) (by omega) [e]
  rw [show a + b - (b - 1) = a + 1 by omega, show b - (b - 1) = 1 by omega, show a - (b - 1) - (a - b + 1) = 0 by omega] at h1
  rw [show srs r 1 ++ srs v 0 = [r] by simp only [srs, List.append_nil, shP_0], dt_one, hA, Nat.pow_one] at h1
  have h2 := Nat.eq_of_mul_eq_mul_left (npow_pos (by omega) _) h1
  rw [← h2]
  have h3 := hi (b - 1) (by omega) (dn (a + 1) (a - b + 1) ++ [e])
  rw [show b - (b - 1) = 1 by omega, show a - (b - 1) - 1 = a - b by omega, Nat.pow_one] at h3
  exact h3
theorem sri_ar {l ht ht' δ p : Nat} (hh : ht' * ht ^ δ = l ^ δ * ht) (hp : 0 < p) : l ^ (δ * (p - 1)) * ht ^ (δ + p - 1) = ht' ^ (p - 1) * ht ^ (δ * p) := by
  have h1 := congrArg (fun z => z ^ (p - 1)) hh
  simp only [Nat.mul_pow, ← Nat.pow_mul] at h1
  rw [show δ + p - 1 = (p - 1) + δ by omega, Nat.pow_add, ← Nat.mul_assoc, ← h1, Nat.mul_assoc, ← Nat.pow_add]
  congr 2
  obtain ⟨k, rfl⟩ : ∃ k, p = k + 1 := ⟨p - 1, by omega⟩
  rw [Nat.add_sub_cancel, Nat.mul_succ]
/-- .. and so on to the next pair: w, of degree c, is what is left over both -/
theorem sri_next {F G : Nat → Int} {n m : Nat} {u v r w Q : Nat → Int} {a b c sc ht ht' : Nat} {A β : Int} (hi : sri F G n m u v a b sc ht) (hnm : a + b ≤ n + m) (hcb : c < b) (hab : b ≤ a) (hl : v b ≠ 0) (hA : A.natAbs = (v b).natAbs ^ (a - b + 1)) (h : ∀ c, A * u c = qs Q v (a - b + 1) c + r c) (hv : ∀ c, b < c → v c = 0) (hw : ∀ e, c < e → w e = 0) (hr : ∀ e, r e = β * w e) (hβ : β.natAbs = sc * ht ^ (a - b)) (hsc : 0 < sc) (hht : 0 < ht) (hh : ht' * ht ^ (a - b) = (v b).natAbs ^ (a - b) * ht) : sri F G n m v w b c (v b).natAbs ht' := by
  intro j hj sel
  have h1 := dt_step (j := j) (n := a - c) (rb := c + 1) h hab hv (fun e he => by rw [hr, hw e (by omega), Int.mul_zero]) (by omega) (by omega) (by omega) sel
  have h2 := congrArg Int.natAbs (dt_srs_scale hr sel (srs v (a - j - (a - c))) (b - j) [])
  simp only [List.nil_append] at h2
  rw [Int.natAbs_mul, Int.natAbs_pow] at h2
  rw [h2, hi j (by omega), hA, hβ] at h1
  have h3 := dt_perm (List.perm_append_comm (l₁ := srs w (b - j)) (l₂ := srs v (a - j - (a - c)))) sel []
  simp only [List.nil_append] at h3
  rw [h3, show a - j - (a - c) = c - j by omega] at h1
  -- the columns
  have h4 : dn (n + m - j) (n + m - a - b) ++ (dn (a + b - j) (a - c) ++ sel) = dn (n + m - j) (n + m - b - c) ++ sel := by
    rw [← List.append_assoc]
    congr 1
    have := dn_add (n + m - a - b) (a - c) (n + m - j)
    rw [show n + m - j - (n + m - a - b) = a + b - j by omega] at this
    rw [← this]
    congr 1
    omega
  rw [h4] at h1
  generalize (dt (dn (n + m - j) (n + m - b - c) ++ sel) (srs F (m - j) ++ srs G (n - j))).natAbs = Y at *
  generalize (dt sel (srs v (c - j) ++ srs w (b - j))).natAbs = X at *
  have hL : 0 < (v b).natAbs := by omega
  generalize (v b).natAbs = l at *
  -- powers
  obtain ⟨p, hp⟩ : ∃ p, b - j = p + 1 := ⟨b - j - 1, by omega⟩
  have har := sri_ar (p := b - j) hh (by omega)
  have e1 : a - b + (b - j) - 1 = a - j - 1 := by omega
  rw [e1] at har
  have e2 : (a - b + 1) * (b - j) = (a - c) + ((c - j) + (a - b) * (b - j - 1)) := by
    rw [hp, Nat.add_sub_cancel, Nat.add_mul, Nat.mul_succ]
    omega
  rw [← Nat.pow_mul, e2, Nat.pow_add, Nat.pow_add, Nat.mul_pow, ← Nat.pow_mul] at h1
  have h5 : l ^ (a - c) * (sc ^ (b - j) * (ht ^ ((a - b) * (b - j)) * (l ^ (c - j) * ht' ^ (b - j - 1) * Y))) = l ^ (a - c) * (sc ^ (b - j) * (ht ^ ((a - b) * (b - j)) * X)) := by
    have e3 : l ^ (a - c) * (sc ^ (b - j) * (ht ^ ((a - b) * (b - j)) * X)) = sc ^ (b - j) * ht ^ ((a - b) * (b - j)) * X * l ^ (a - c) := by grind
    have e4 : l ^ (a - c) * (sc ^ (b - j) * (ht ^ ((a - b) * (b - j)) * (l ^ (c - j) * ht' ^ (b - j - 1) * Y))) = l ^ (a - c) * (sc ^ (b - j) * (l ^ (c - j) * ((ht' ^ (b - j - 1) * ht ^ ((a - b) * (b - j))) * Y))) := by grind
    rw [e4, ← har]
    grind
  have h6 := Nat.eq_of_mul_eq_mul_left (npow_pos hL _) h5
  have h7 := Nat.eq_of_mul_eq_mul_left (npow_pos hsc _) h6
  have h8 := Nat.eq_of_mul_eq_mul_left (npow_pos hht _) h7
  exact h8.symm
/-- the next top coefficient's powers can be divided by the next height's -/
theorem sri_pow {F G : Nat → Int} {n m : Nat} {u v r w Q : Nat → Int} {a b c sc ht ht' k : Nat} {A β : Int} (hi : sri F G n m u v a b sc ht) (hk : 1 ≤ k) (hkb : k ≤ b - c) (hcb : c < b) (hab : b ≤ a) (hl : v b ≠ 0) (hA : A.natAbs = (v b).natAbs ^ (a - b + 1)) (h : ∀ c, A * u c = qs Q v (a - b + 1) c + r c) (hv : ∀ c, b < c → v c = 0) (hw : ∀ e, c < e → w e = 0) (hr : ∀ e, r e = β * w e) (hβ : β.natAbs = sc * ht ^ (a - b)) (hsc : 0 < sc) (hht : 0 < ht) (hh : ht' * ht ^ (a - b) = (v b).natAbs ^ (a - b) * ht) : ht' ^ (k - 1) * (dt (dn (n + m - (b - k)) (n + m - a - b) ++ (dn (a + k) (a - b + k) ++ dn (k + c) k)) (srs F (m - (b - k)) ++ srs G (n - (b - k)))).natAbs = (w c).natAbs ^ k := by
  have h1 := dt_step (j := b - k) (n := a - b + k) (rb := c + 1) h hab hv (fun e he => by rw [hr, hw e (by omega), Int.mul_zero]) (by omega) (by omega) (by omega) (dn (k + c) k)
  have h2 := congrArg Int.natAbs (dt_srs_scale hr (dn (k + c) k) (srs v (a - (b - k) - (a - b + k))) (b - (b - k)) [])
  simp only [List.nil_append] at h2
  rw [Int.natAbs_mul, Int.natAbs_pow] at h2
  rw [show a + b - (b - k) = a + k by omega] at h1
  rw [h2, hi (b - k) (by omega), hA, hβ] at h1
  have h3 := dt_run hw [] k k [] (Nat.le_refl _) (fun w hw => by cases hw)
  simp only [List.nil_append, List.append_nil, Nat.sub_self] at h3
  rw [show a - (b - k) - (a - b + k) = 0 by omega, show b - (b - k) = k by omega, show srs v 0 = [] from rfl, List.append_nil, h3] at h1
  rw [show dt [] (srs w 0) = 1 by show dt [] [] = 1; rw [dt, if_pos rfl], show (1 : Int).natAbs = 1 from rfl, Nat.mul_one] at h1
  generalize (dt (dn (n + m - (b - k)) (n + m - a - b) ++ (dn (a + k) (a - b + k) ++ dn (k + c) k)) (srs F (m - (b - k)) ++ srs G (n - (b - k)))).natAbs = M at *
  generalize (w c).natAbs = z at *
  have hL : 0 < (v b).natAbs := by omega
  generalize (v b).natAbs = l at *
  have har := sri_ar (p := k) hh (by omega)
  rw [show a - (b - k) - 1 = a - b + k - 1 by omega] at h1
  have e2 : (a - b + 1) * k = (a - b + k) + (a - b) * (k - 1) := by
    obtain ⟨p, rfl⟩ : ∃ p, k = p + 1 := ⟨k - 1, by omega⟩
    rw [Nat.add_sub_cancel, Nat.add_mul, Nat.mul_succ]
    omega
  rw [← Nat.pow_mul, e2, Nat.pow_add, Nat.mul_pow, ← Nat.pow_mul] at h1
  have h5 : l ^ (a - b + k) * (sc ^ k * (ht ^ ((a - b) * k) * (ht' ^ (k - 1) * M))) = l ^ (a - b + k) * (sc ^ k * (ht ^ ((a - b) * k) * z ^ k)) := by
    have e4 : l ^ (a - b + k) * (sc ^ k * (ht ^ ((a - b) * k) * (ht' ^ (k - 1) * M))) = l ^ (a - b + k) * (sc ^ k * ((ht' ^ (k - 1) * ht ^ ((a - b) * k)) * M)) := by grind
    rw [e4, ← har]
    grind
  have h6 := Nat.eq_of_mul_eq_mul_left (npow_pos hL _) h5
  have h7 := Nat.eq_of_mul_eq_mul_left (npow_pos hsc _) h6
  exact Nat.eq_of_mul_eq_mul_left (npow_pos hht _) h7
/-- the sum of magnitudes of a row over columns -/
def rs (r : Nat → Int) : List Nat → Nat
  | [] => 0
  | c :: cs => (r c).natAbs + rs r cs
/-- the product of these over all rows -/
def rp (cs : List Nat) : List (Nat → Int) → Nat
  | [] => 1
  | r :: l => rs r cs * rp cs l
theorem rp_app (cs : List Nat) : ∀ A B, rp cs (A ++ B) = rp cs A * rp cs B
  | [], B => by simp only [List.nil_append, rp, Nat.one_mul]
  | r :: A, B => by simp only [List.cons_append, rp]; rw [rp_app cs A B, Nat.mul_assoc]
theorem rp_le (c : Nat) (cs : List Nat) : ∀ A, rp cs A ≤ rp (c :: cs) A
  | [] => Nat.le_refl _
  | r :: A => by
    simp only [rp, rs]
    exact Nat.mul_le_mul (Nat.le_add_left _ _) (rp_le c cs A)
theorem ds_bound {D : List (Nat → Int) → Int} {c : Nat} {cs : List Nat} (hD : ∀ l, (D l).natAbs ≤ rp cs l) : ∀ l P, (ds D c P l).natAbs + rp cs P * rp cs l ≤ rp cs P * rp (c :: cs) l
  | [], P => by simp only [ds, rp]; omega
  | r :: l, P => by
    have ih := ds_bound (c := c) hD l (P ++ [r])
    have h1 := hD (P ++ l)
    rw [rp_app] at h1 ih
    simp only [rp, Nat.mul_one] at ih
    simp only [ds, rp, rs]
    have h2 : (r c * D (P ++ l) - ds D c (P ++ [r]) l).natAbs ≤ (r c).natAbs * (D (P ++ l)).natAbs + (ds D c (P ++ [r]) l).natAbs := by
      have := Int.natAbs_sub_le (r c * D (P ++ l)) (ds D c (P ++ [r]) l)
      rw [Int.natAbs_mul] at this
      exact this
    have h3 : (r c).natAbs * (D (P ++ l)).natAbs ≤ (r c).natAbs * (rp cs P * rp cs l) := Nat.mul_le_mul_left _ h1
    have h4 : (r c).natAbs * (rp cs P * rp cs l) ≤ (r c).natAbs * (rp cs P * rp (c :: cs) l) := Nat.mul_le_mul_left _ (Nat.mul_le_mul_left _ (rp_le c cs l))
    have e1 : rp cs P * (rs r cs * rp cs l) = rp cs P * rs r cs * rp cs l := by rw [Nat.mul_assoc]
    have e2 : rp cs P * (((r c).natAbs + rs r cs) * rp (c :: cs) l) = (r c).natAbs * (rp cs P * rp (c :: cs) l) + rp cs P * rs r cs * rp (c :: cs) l := by grind
    rw [e1, e2]
    omega
/-- a determinant is not above the product of its rows' sums -/
theorem dt_bound : ∀ cs l, (dt cs l).natAbs ≤ rp cs l
  | [], l => by
    rw [dt]
    by_cases h : l = []
    · subst h; rw [if_pos rfl]; exact Nat.le_refl _
    · rw [if_neg h]; exact Nat.zero_le _
  | c :: cs, l => by
    rw [dt_cons]
    have := ds_bound (c := c) (dt_bound cs) l []
    simp only [rp, Nat.one_mul] at this
    omega
/-- falling columns below hi -/
def fal : Nat → List Nat → Prop
  | _, [] => True
  | hi, c :: cs => c < hi ∧ fal c cs
/-- the sum of all magnitudes below n -/
def l1 (r : Nat → Int) : Nat → Nat
  | 0 => 0
  | n + 1 => l1 r n + (r n).natAbs
theorem l1_mono (r : Nat → Int) {a b : Nat} (h : a ≤ b) : l1 r a ≤ l1 r b := by
  induction h with
  | refl => exact Nat.le_refl _
  | step _ ih => exact Nat.le_trans ih (Nat.le_add_right _ _)
theorem rs_le (r : Nat → Int) : ∀ cs hi, fal hi cs → rs r cs ≤ l1 r hi
  | [], _, _ => Nat.zero_le _
  | c :: cs, hi, h => by
    have h1 := rs_le r cs c h.2
    have h2 := l1_mono r (show c + 1 ≤ hi from h.1)
    simp only [rs]
    have e : l1 r (c + 1) = l1 r c + (r c).natAbs := rfl
    omega
theorem l1_top {v : Nat → Int} {b : Nat} (hv : ∀ c, b ≤ c → v c = 0) : ∀ n, l1 v n ≤ l1 v b
  | 0 => Nat.zero_le _
  | n + 1 => by
    by_cases h : b ≤ n
    · show l1 v n + (v n).natAbs ≤ _
      rw [hv n h]
      exact l1_top hv n
    · exact l1_mono v (by omega)
theorem l1_sh {v : Nat → Int} (k : Nat) : ∀ n, l1 (shP v k) (n + k) = l1 v n
  | 0 => by
    rw [Nat.zero_add]
    have : ∀ t, t ≤ k → l1 (shP v k) t = 0 := by
      intro t
      induction t with
      | zero => intro _; rfl
      | succ t ih =>
        intro ht
        show l1 (shP v k) t + _ = 0
        rw [ih (by omega)]
        unfold shP; rw [if_pos (by omega)]; rfl
    exact this k (Nat.le_refl _)
  | n + 1 => by
    rw [show n + 1 + k = (n + k) + 1 by omega]
    show l1 (shP v k) (n + k) + (shP v k (n + k)).natAbs = l1 v n + (v n).natAbs
    rw [l1_sh k n]
    unfold shP
    rw [if_neg (by omega), Nat.add_sub_cancel]
theorem rs_sh {v : Nat → Int} {b : Nat} (hv : ∀ c, b ≤ c → v c = 0) (k : Nat) {cs : List Nat} {hi : Nat} (h : fal hi cs) : rs (shP v k) cs ≤ l1 v b := by
  have h1 := rs_le (shP v k) cs hi h
  have h2 := l1_mono (shP v k) (show hi ≤ hi + k by omega)
  rw [l1_sh] at h2
  have h3 := l1_top hv hi
  omega
theorem rp_srs {v : Nat → Int} {b : Nat} (hv : ∀ c, b ≤ c → v c = 0) {cs : List Nat} {hi : Nat} (h : fal hi cs) : ∀ n, rp cs (srs v n) ≤ l1 v b ^ n
  | 0 => Nat.le_refl _
  | n + 1 => by
    simp only [srs, rp]
    rw [Nat.pow_succ, Nat.mul_comm]
    exact Nat.mul_le_mul (rp_srs hv h n) (rs_sh hv n h)
/-- the minors' bound -/
theorem dt_srs_bound {F G : Nat → Int} {n m p q : Nat} (hF : ∀ c, n ≤ c → F c = 0) (hG : ∀ c, m ≤ c → G c = 0) {cs : List Nat} {hi : Nat} (h : fal hi cs) : (dt cs (srs F p ++ srs G q)).natAbs ≤ l1 F n ^ p * l1 G m ^ q := by
  refine Nat.le_trans (dt_bound _ _) ?_
  rw [rp_app]
  exact Nat.mul_le_mul (rp_srs hF h p) (rp_srs hG h q)
theorem fal_mono : ∀ {cs : List Nat} {a b : Nat}, a ≤ b → fal a cs → fal b cs
  | [], _, _, _, _ => trivial
  | c :: cs, a, b, h, hf => ⟨Nat.lt_of_lt_of_le hf.1 h, hf.2⟩
theorem fal_dn : ∀ (n hi : Nat) (l : List Nat), n ≤ hi → fal (hi - n) l → fal hi (dn hi n ++ l)
  | 0, hi, l, _, h => h
  | n + 1, hi, l, hn, h => ⟨by omega, fal_dn n (hi - 1) l (by omega) (by rw [show hi - 1 - n = hi - (n + 1) by omega]; exact h)⟩
