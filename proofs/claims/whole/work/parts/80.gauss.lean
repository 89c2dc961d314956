theorem ev_zero_inj {A : Nat → Int} : ∀ {n : Nat}, (∀ x, ev A n x = 0) → ∀ k, k < n → A k = 0
  | 0, _, k, hk => by omega
  | n + 1, h, k, hk => by
    have h0 : A n = 0 := by
      refine Classical.byContradiction (fun hc => ?_)
      obtain ⟨H, hH, hb⟩ := ab_all A (n + 1)
      have h1 := ev_top (P := fun k => if k < n + 1 then A k else 0) (H := H) (x := 1 + H) (fun k => by
        show ab ((if k < n + 1 then A k else 0 : Int) : Rat) H
        by_cases hk : k < n + 1
        · rw [if_pos hk]; exact hb k hk
        · rw [if_neg hk]; unfold ab; grind) (by grind) (n := n) (by show (if n < n + 1 then A n else 0) ≠ 0; rw [if_pos (by omega)]; exact hc)
      rw [ev_congr (Q := A) (fun k hk => by rw [if_pos hk]), h, if_pos (by omega)] at h1
      rw [show sgr 0 = 0 from rfl] at h1
      exact hc (Int.sign_eq_zero_iff_zero.1 h1.symm)
    by_cases e : k = n
    · subst e; exact h0
    · refine ev_zero_inj (n := n) (fun x => ?_) k (by omega)
      have := h x
      rw [show ev A (n + 1) x = ev A n x + A n * x ^ n from rfl, h0] at this
      grind
/-- the same values, the same coefficients -/
theorem ev_inj {A C : Nat → Int} {n : Nat} (h : ∀ x, ev A n x = ev C n x) (k : Nat) (hk : k < n) : A k = C k := by
  have h1 := ev_zero_inj (A := fun k => 1 * A k + (-1) * C k) (n := n) (fun x => by rw [ev_lin, h]; grind) k hk
  have h2 : 1 * A k + (-1) * C k = 0 := h1
  omega
/-- the product's values -/
theorem ev_qs {v : Nat → Int} {m : Nat} (hv : ∀ k, m ≤ k → v k = 0) (Q : Nat → Int) (x : Rat) (N : Nat) : ∀ n, n + m ≤ N + 1 → ev (qs Q v n) N x = ev Q n x * ev v m x
  | 0, _ => by
    rw [ev_pad (P := qs Q v 0) (Nat.zero_le N) (fun _ _ _ => rfl)]
    simp only [ev]; grind
  | n + 1, h => by
    have e1 : ev (qs Q v (n + 1)) N x = ev (fun k => 1 * qs Q v n k + Q n * shP v n k) N x := ev_congr (fun k _ => by show qs Q v n k + Q n * shP v n k = _; omega) x
    rw [e1, ev_lin 1 (Q n) (qs Q v n) (shP v n), ev_qs hv Q x N n (by omega)]
    have e2 : ev (shP v n) N x = ev (shP v n) (m + n) x := ev_pad (by omega) (fun k h1 h2 => by unfold shP; split; rfl; exact hv _ (by omega)) x
    rw [e2, ev_sh]
    show _ = (ev Q n x + Q n * x ^ n) * ev v m x
    grind
/-- a number above 1 has a factor that divides a product only with one of both -/
theorem prime_fac {c : Nat} (h : 1 < c) : ∃ l, 1 < l ∧ l ∣ c ∧ ∀ a b : Nat, l ∣ a * b → l ∣ a ∨ l ∣ b := by
  have key : ∀ n, ∀ c, c ≤ n → 1 < c → ∃ l, 1 < l ∧ l ∣ c ∧ ∀ d, d ∣ l → d = 1 ∨ d = l := by
    intro n
    induction n with
    | zero => intro c h1 h2; omega
    | succ n ih =>
      intro c h1 h2
      by_cases hp : ∀ d, d ∣ c → d = 1 ∨ d = c
      · exact ⟨c, h2, Nat.dvd_refl c, hp⟩
      · obtain ⟨d, hd, hd1, hd2⟩ : ∃ d, d ∣ c ∧ d ≠ 1 ∧ d ≠ c := by
          refine Classical.byContradiction (fun hc => hp (fun d hd => ?_))
          refine Classical.byContradiction (fun hn => hc ⟨d, hd, fun e => hn (Or.inl e), fun e => hn (Or.inr e)⟩)
        have hle := Nat.le_of_dvd (by omega) hd
        have h0 : d ≠ 0 := fun e => by subst e; have := Nat.eq_zero_of_zero_dvd hd; omega
        obtain ⟨l, l1, l2, l3⟩ := ih d (by omega) (by omega)
        exact ⟨l, l1, Nat.dvd_trans l2 hd, l3⟩
  obtain ⟨l, l1, l2, l3⟩ := key c c (Nat.le_refl _) h
  refine ⟨l, l1, l2, fun a b hab => ?_⟩
  rcases l3 (Nat.gcd l a) (Nat.gcd_dvd_left l a) with e | e
  · exact Or.inr (Nat.Coprime.dvd_of_dvd_mul_left e hab)
  · left; rw [← e]; exact Nat.gcd_dvd_right l a
theorem gn_ldvd {P : Nat → Int} {l : Nat} : ∀ n, (∀ k, k < n → l ∣ (P k).natAbs) → l ∣ gn P n
  | 0, _ => Nat.dvd_zero l
  | n + 1, h => Nat.dvd_gcd (gn_ldvd n (fun k hk => h k (by omega))) (h n (by omega))
theorem gn_of {P : Nat → Int} : ∀ n k, k < n → gn P n ∣ (P k).natAbs
  | 0, k, h => by omega
  | n + 1, k, h => by
    by_cases e : k = n
    · subst e; exact Nat.gcd_dvd_right _ _
    · exact Nat.dvd_trans (Nat.gcd_dvd_left _ _) (gn_of n k (by omega))
theorem idvd {l : Nat} {z : Int} : (l : Int) ∣ z ↔ l ∣ z.natAbs := Int.ofNat_dvd_left
/-- l divides a product of polynomials, and not the first: it divides the second -/
theorem gauss_l {d K : Nat → Int} {n i l : Nat} (hl : ∀ a b : Nat, l ∣ a * b → l ∣ a ∨ l ∣ b) (hi : i < n) (h1 : ∀ t, t < i → (l : Int) ∣ d t) (h2 : ¬ (l : Int) ∣ d i) (h : ∀ c, (l : Int) ∣ qs d K n c) : ∀ k, (l : Int) ∣ K k := by
  intro k
  induction k using Nat.strongRecOn with
  | _ k ih =>
    -- the sum at i + k without the term i
    have key : ∀ N, N ≤ n → (l : Int) ∣ (if i < N then qs d K N (i + k) - d i * K k else qs d K N (i + k)) := by
      intro N
      induction N with
      | zero => intro _; rw [if_neg (by omega)]; exact Int.dvd_zero _
      | succ N ihN =>
        intro hN
        have e : qs d K (N + 1) (i + k) = qs d K N (i + k) + d N * shP K N (i + k) := rfl
        have a := ihN (by omega)
        by_cases c1 : i < N
        · rw [if_pos c1] at a
          rw [if_pos (by omega), e]
          have b : (l : Int) ∣ d N * shP K N (i + k) := by
            unfold shP
            split
            · rw [Int.mul_zero]; exact Int.dvd_zero _
            · exact Int.dvd_mul_of_dvd_right (ih _ (by omega))
          have := Int.dvd_add a b
          rw [show qs d K N (i + k) + d N * shP K N (i + k) - d i * K k = qs d K N (i + k) - d i * K k + d N * shP K N (i + k) by omega]
          exact this
        · rw [if_neg c1] at a
          by_cases c2 : i = N
          · rw [if_pos (by omega), e, ← c2]
            rw [show shP K i (i + k) = K k by unfold shP; rw [if_neg (by omega)]; congr 1; omega]
            rw [c2, Int.add_sub_cancel]
            rw [c2] at a
            exact a
          · rw [if_neg (by omega), e]
            exact Int.dvd_add a (Int.dvd_mul_of_dvd_left (h1 N (by omega)))
    have a := key n (Nat.le_refl _)
    rw [if_pos hi] at a
    have b := Int.dvd_sub (h (i + k)) a
    rw [show qs d K n (i + k) - (qs d K n (i + k) - d i * K k) = d i * K k by omega] at b
    rw [idvd, Int.natAbs_mul] at b
    rcases hl _ _ b with g | g
    · exact absurd (idvd.2 g) h2
    · exact idvd.2 g
/-- Gauss: what a primitive polynomial divides, up to a number, it divides -/
theorem gauss {d : Nat → Int} {n : Nat} (hd : gn d n = 1) : ∀ (c : Nat) (p K : Nat → Int), 0 < c → (∀ k, (c : Int) * p k = qs d K n k) → ∀ k, (c : Int) ∣ K k := by
  intro c
  induction c using Nat.strongRecOn with
  | _ c ih =>
    intro p K hc h k
    by_cases h1 : c = 1
    · rw [h1]; exact Int.one_dvd _
    obtain ⟨l, l1, ⟨c', hc'⟩, hl⟩ := prime_fac (show 1 < c by omega)
    -- the first coefficient that l does not divide
    have hex : ∃ i, i < n ∧ (∀ t, t < i → (l : Int) ∣ d t) ∧ ¬ (l : Int) ∣ d i := by
      have : ∀ N, N ≤ n → (∀ t, t < N → (l : Int) ∣ d t) ∨ ∃ i, i < n ∧ (∀ t, t < i → (l : Int) ∣ d t) ∧ ¬ (l : Int) ∣ d i := by
        intro N
        induction N with
        | zero => intro _; exact Or.inl (fun t ht => by omega)
        | succ N ihN =>
          intro hN
          rcases ihN (by omega) with a | a
          · by_cases e : (l : Int) ∣ d N
            · left
              intro t ht
              by_cases e2 : t = N
              · rw [e2]; exact e
              · exact a t (by omega)
            · exact Or.inr ⟨N, by omega, a, e⟩
          · exact Or.inr a
      rcases this n (Nat.le_refl _) with a | a
      · exfalso
        have := gn_ldvd (P := d) (l := l) n (fun k hk => idvd.1 (a k hk))
        rw [hd] at this
        have := Nat.le_of_dvd (by omega) this
        omega
      · exact a
    obtain ⟨i, i1, i2, i3⟩ := hex
    have hK := gauss_l hl i1 i2 i3 (fun j => by rw [← h j, hc']; push_cast; exact ⟨(c' : Int) * p j, by rw [Int.mul_assoc]⟩) 
    -- K = l K'
    have hK' : ∀ j, K j = l * (K j / l) := fun j => (Int.mul_ediv_cancel' (hK j)).symm
    have l0 : (l : Int) ≠ 0 := by omega
    have hq : ∀ N j, qs d K N j = l * qs d (fun j => K j / l) N j := by
      intro N
      induction N with
      | zero => intro j; show (0 : Int) = l * 0; omega
      | succ N ihN =>
        intro j
        show qs d K N j + d N * shP K N j = l * (qs d (fun j => K j / l) N j + d N * shP (fun j => K j / l) N j)
        rw [ihN]
        have : shP K N j = l * shP (fun j => K j / l) N j := by
          unfold shP
          split
          · omega
          · exact hK' _
        rw [this]
        grind
    have hc0 : 0 < c' := by
      rcases Nat.eq_zero_or_pos c' with e | e
      · subst e; omega
      · exact e
    have hlt : c' < c := by
      rw [hc']
      exact Nat.lt_of_lt_of_le (by omega) (Nat.mul_le_mul_right c' (show 2 ≤ l by omega))
    have := ih c' hlt p (fun j => K j / l) hc0 (fun j => by
      have h2 := h j
      rw [hq, hc'] at h2
      push_cast at h2
      rw [Int.mul_assoc] at h2
      exact Int.eq_of_mul_eq_mul_left l0 h2) k
    rw [hc', hK' k]
    push_cast
    exact Int.mul_dvd_mul (Int.dvd_refl _) this
