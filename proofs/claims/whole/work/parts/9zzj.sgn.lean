/-! WHAT THE OTHER POLYNOMIAL IS NEAR A ROOT: the reference's signAt -/
theorem pow_mod {a b : Rat → Rat} (pa : pl a) (pb : pl b) : ∀ k : Nat, ∃ Z : Rat → Rat, pl Z ∧ ∀ x, (a x + b x) ^ k = a x * Z x + b x ^ k
  | 0 => ⟨fun _ => 0, pl.const 0, fun x => by rw [Rat.pow_zero, Rat.pow_zero]; grind⟩
  | k + 1 => by
    obtain ⟨Z, pZ, hZ⟩ := pow_mod pa pb k
    refine ⟨fun x => Z x * (a x + b x) + b x ^ k, (pZ.mul (pa.add pb)).add (pb.pow k), fun x => ?_⟩
    rw [Rat.pow_succ, Rat.pow_succ, hZ x]
    grind
/-- the divisor of two, made primitive -/
theorem gcd_ex {A B : Nat → Int} {a b : Nat} (zA : ∀ c, a < c → A c = 0) (zB : ∀ c, b < c → B c = 0) (nA : A a ≠ 0) (nB : B b ≠ 0) : ∃ (G : Nat → Int) (e : Nat), (∀ c, e < c → G c = 0) ∧ G e ≠ 0 ∧ gn G (e + 1) = 1 ∧ cmf (ev A (a + 1)) (ev B (b + 1)) (ev G (e + 1)) := by
  have main : ∀ {A B : Nat → Int} {a b : Nat}, (∀ c, a < c → A c = 0) → (∀ c, b < c → B c = 0) → A a ≠ 0 → B b ≠ 0 → b ≤ a → ∃ (G : Nat → Int) (e : Nat), (∀ c, e < c → G c = 0) ∧ G e ≠ 0 ∧ gn G (e + 1) = 1 ∧ cmf (ev A (a + 1)) (ev B (b + 1)) (ev G (e + 1)) := by
    intro A B a b zA zB nA nB hba
    obtain ⟨M, F, d, hM, e0, e1, d0, d1, hch⟩ := chs_ex (f := l1 A (a + 1)) (g := l1 B (b + 1)) zA zB nA nB hba (Nat.le_of_lt Nat.lt_two_pow_self) (Nat.le_of_lt Nat.lt_two_pow_self)
    have hcm := chs_cmf hch hM
    have t0 : lk F d 0 = ev A (a + 1) := by funext x; unfold lk; rw [e0, d0]
    have t1 : lk F d 1 = ev B (b + 1) := by funext x; unfold lk; rw [e1, d1]
    rw [t0, t1] at hcm
    obtain ⟨sc, ht, hc, -⟩ := hch
    obtain ⟨x1, x2, x3⟩ := gn_ex (hc.1 M (Nat.le_refl _)).2
    have hzM := (hc.1 M (Nat.le_refl _)).1
    have hnM := (hc.1 M (Nat.le_refl _)).2
    generalize hg0 : gn (F M) (d M + 1) = g at *
    have hgr : ((g : Int) : Rat) ≠ 0 := fun h9 => by
      have := Rat.intCast_eq_zero_iff.1 h9
      omega
    refine ⟨fun c => (F M c).tdiv (g : Int), d M, fun c hc => by show (F M c).tdiv _ = 0; rw [hzM c hc, Int.zero_tdiv], fun h9 => hnM (by rw [x2 _ (Nat.le_refl _)]; have h9 : (F M (d M)).tdiv (g : Int) = 0 := h9; rw [h9, Int.mul_zero]), x3, hcm.scale hgr (fun x => ?_)⟩
    have h4 := ev_lin (g : Int) 0 (fun c => (F M c).tdiv (g : Int)) (fun _ => 0) x (d M + 1)
    rw [ev_congr (Q := F M) (fun j hj => by have := x2 j (by omega); omega) x] at h4
    unfold lk
    rw [h4]
    have : ((0 : Int) : Rat) = 0 := rfl
    grind
  rcases Nat.lt_or_ge a b with h | h
  · obtain ⟨G, e, g1, g2, g3, g4⟩ := main zB zA nB nA (by omega)
    exact ⟨G, e, g1, g2, g3, g4.swap⟩
  · exact main zA zB nA nB h
/-- a polynomial whose factors are factors of q keeps its sign where q has no root -/
theorem keep_all {q q1 u w : Rat → Rat} {s N : Rat → Int} {c : Int} (hs : rsx q s N c) (dq : df q q1) (pu : pl u) (pw : pl w) (bq : ∀ x, u x * q x + w x * q1 x = 1) {Q : Nat → Int} {m : Nat} (zQ : ∀ c, m < c → Q c = 0) (nQ : Q m ≠ 0) (hq : ∀ x, q x = ev Q (m + 1) x) : ∀ (t : Nat) (A : Nat → Int) (a : Nat), a ≤ t → (∀ c, a < c → A c = 0) → A a ≠ 0 → (∃ (b : Rat) (k : Nat) (K : Rat → Rat), b ≠ 0 ∧ pl K ∧ ∀ x, b * q x ^ k = ev A (a + 1) x * K x) → ∀ x y, x < y → q x ≠ 0 → q y ≠ 0 → N y = N x → keep (ev A (a + 1)) x y := by
  have pq' : pl q := (pl.ev Q (m + 1)).congr hq
  have con : ∀ (A : Nat → Int), A 0 ≠ 0 → ∀ x y, keep (ev A (0 + 1)) x y := fun A nA x y => by
    have hne : ((A 0 : Int) : Rat) ≠ 0 := fun h9 => nA (Rat.intCast_eq_zero_iff.1 h9)
    unfold keep
    rw [ev_one1, ev_one1]
    have := mul_pos_iff' (a := ((A 0 : Int) : Rat)) (b := ((A 0 : Int) : Rat))
    grind
  intro t
  induction t with
  | zero =>
    intro A a ha zA nA _ x y _ _ _ _
    obtain rfl : a = 0 := by omega
    exact con A nA x y
  | succ t ih =>
    intro A a ha zA nA hK x y hxy qx qy hN
    rcases Nat.eq_zero_or_pos a with h0 | h0
    · subst h0; exact con A nA x y
    obtain ⟨b, k, K, hb, pK, eK⟩ := hK
    obtain ⟨G, e, g1, g2, g3, ra, rb', ua, ub, p1, p2, p3, p4, e1, e2, e3⟩ := gcd_ex zA zQ nA nQ
    have pG : pl (ev G (e + 1)) := pl.ev _ _
    have pA : pl (ev A (a + 1)) := pl.ev _ _
    obtain ⟨a1, A', b1, b2, b3, b4⟩ := int_fac zA nA g1 g2 g3 p1 e1
    rcases Nat.eq_zero_or_pos e with he | he
    · exfalso
      subst he
      have hne : ((G 0 : Int) : Rat) ≠ 0 := fun h9 => g2 (Rat.intCast_eq_zero_iff.1 h9)
      obtain ⟨Z, pZ, hZ⟩ := pow_mod (p3.mul pA) (p4.mul pq') k
      have hG : ∀ x, ua x * ev A (a + 1) x + ub x * q x = ((G 0 : Int) : Rat) := fun x => by rw [hq x, ← e3 x, ev_one1]
      have hGk := rpow_ne hne k
      have h3 : dg (ev A (a + 1)) 0 := unit_dg (r := fun x => 1 / (((G 0 : Int) : Rat) ^ k) * (ua x * Z x + 1 / b * (ub x ^ k * K x))) pA (((p3.mul pZ).add (((p4.pow k).mul pK).smul _)).smul _) (fun x => by
        have t1 := hZ x
        rw [hG x] at t1
        have t2 := eK x
        have t3 : (ub x * q x) ^ k = ub x ^ k * q x ^ k := rmul_pow _ _ _
        rw [t3] at t1
        have t4 : q x ^ k = 1 / b * (ev A (a + 1) x * K x) := by rw [← t2]; grind
        rw [t4] at t1
        have t5 : 1 / (((G 0 : Int) : Rat) ^ k) * (((G 0 : Int) : Rat) ^ k) = 1 := by
          generalize ((G 0 : Int) : Rat) ^ k = D at *
          grind
        rw [t1] at t5
        rw [← t5]
        grind)
      have := (dg_ev nA).eq h3
      omega
    · have hk1 := ih A' (a - e) (by omega) b1 b2 ⟨b, k, fun x => ev G (e + 1) x * K x, hb, pG.mul pK, fun x => by rw [eK x, e1 x, b4 x]; grind⟩ x y hxy qx qy hN
      obtain ⟨U, W, pU, pW, bz⟩ := fac_bz pG p2 pu pw dq (fun x => by rw [hq x, e2 x]) bq
      obtain ⟨B, -, bx, by'⟩ := ab_two x y
      have hk2 := (((hs.2.1 B).fac1 hs.1 pG.lp p2.lp pU.lp pW.lp (fun x => by rw [hq x, e2 x]) bz x y bx by' hxy qx qy).1 hN).1
      unfold keep at hk1 hk2 ⊢
      rw [e1 x, e1 y, ← b4 x, ← b4 y]
      exact fac_sg.1 ⟨hk2, hk1⟩
section
variable {P P2 : Nat → Int} {n M n2 M2 : Nat} {F F2 : Nat → Nat → Int} {d d2 : Nat → Nat}
theorem gch_fcp (h : gch P n M F d) : fcp P n (F 0) (d 0) ∨ (n = 0 ∧ d 0 = 0 ∧ F 0 = P) := by
  rcases h.2.2.2.2 with ⟨a1, a2, a3, a4⟩ | ⟨a1, a2, -, a4, a5, a6, a7⟩
  · exact Or.inr ⟨a1, a3, a4⟩
  · exact Or.inl a7
theorem gch_vzP (h : gch P n M F d) {br : Rat → Rat → Prop} (hp : pla br) : vz br (ev P (n + 1)) ↔ vz br (lk F d 0) := by
  rcases (gch_fcp h) with h1 | ⟨h1, h2, h3⟩
  · exact fcp_vz hp h1
  · have : lk F d 0 = ev P (n + 1) := by funext x; unfold lk; rw [h1, h2, h3]
    rw [this]
theorem gch.zP (h : gch P n M F d) (x : Rat) : ev P (n + 1) x = 0 ↔ lk F d 0 x = 0 := by
  rcases (gch_fcp h) with h1 | ⟨h1, h2, h3⟩
  · exact fcp_z h1 x
  · have : lk F d 0 = ev P (n + 1) := by funext x; unfold lk; rw [h1, h2, h3]
    rw [this]
theorem gch.keepP (h : gch P n M F d) (h1 : 1 ≤ d 0) {x y : Rat} (hxy : x < y) (qx : lk F d 0 x ≠ 0) (qy : lk F d 0 y ≠ 0) (hN : cN F d M y = cN F d M x) : keep (ev P (n + 1)) x y := by
  obtain ⟨s, hs⟩ := h.rs
  obtain ⟨dq, u, w, pu, pw, bq⟩ := h.bzq h1
  have hzq := h.zq 0 (by omega)
  rcases (gch_fcp h) with h2 | ⟨h2, h3, h4⟩
  · obtain ⟨D, c, K, pD, pK, hc, e1, e2⟩ := fcp_K h2
    refine keep_all hs dq pu pw bq hzq.1 hzq.2 (fun x => rfl) n P n (Nat.le_refl _) h.1 h.2.1 ⟨c, n - d 0 + 1, K, hc, pK, fun x => ?_⟩ x y hxy qx qy hN
    rw [e1 x, Rat.pow_succ]
    have := e2 x
    show c * (ev (F 0) (d 0 + 1) x ^ (n - d 0) * ev (F 0) (d 0 + 1) x) = _
    generalize ev (F 0) (d 0 + 1) x ^ (n - d 0) = Z at *
    grind
  · omega
/-- a cell where the other has no change: its sign at the low end is its sign at the root -/
theorem sg_ok (h : gch P n M F d) (h2 : gch P2 n2 M2 F2 d2) (k1 : 1 ≤ d2 0) {i : Int} (hi : 0 ≤ i ∧ i < vlo F d M - vhi F d M) {C : Int} {j : Nat} (hj : 1 ≤ j) (hc : rce (lk F d 0) (cN F d M) i C j 0) (hch : chg F2 d2 C j = 0) (hz : ev P2 (n2 + 1) (xl C j) ≠ 0) (hnv : ¬ vz (rb (lk F d 0) (cN F d M) B0 i) (ev P2 (n2 + 1))) : sga (lk F d 0) (cN F d M) i (ev P2 (n2 + 1)) (sgr (ev P2 (n2 + 1) (xl C j))) := by
  obtain ⟨s2, hs2⟩ := h2.rs
  have hp := h.pla (re := 32) (Or.inl rfl) (by omega) hi
  have hb0 := rce.brk h hj hc
  obtain ⟨c0, τ, hτ, cs⟩ := h2.chg0 hch
  have w0 := wd_pos j
  have q0 : lk F2 d2 0 (xl C j) ≠ 0 := fun h9 => hz ((h2.zP _).2 h9)
  have key : ∀ t, xl C j ≤ t → t < xl C j + wd j → sgr (ev P2 (n2 + 1) t) = sgr (ev P2 (n2 + 1) (xl C j)) := fun t t1 t2 => by
    by_cases he : t = xl C j
    · rw [he]
    · have t3 : xl C j < t := Rat.lt_of_le_of_ne t1 (fun h9 => he h9.symm)
      have s1 := cs t t3 t2
      have q1 : lk F2 d2 0 t ≠ 0 := sgr_ne.1 (by omega)
      have n1 := hs2.mono t1
      have n3 := hs2.nmm t2
      have hk := h2.keepP k1 t3 q0 q1 (by omega)
      exact hk.sg.1.symm
  have fin : ∀ σ : Int, σ = 1 ∨ σ = -1 → sa (rb (lk F d 0) (cN F d M) B0 i) (ev P2 (n2 + 1)) σ → sgr (ev P2 (n2 + 1) (xl C j)) = σ := by
    rintro σ hσ ⟨x, y, hb, ε, hε, hx⟩
    obtain ⟨u, v, h5, a, b, c, d⟩ := hp.2.1 _ _ x y hb0 hb
    have h6 := hp.1 u v h5
    rw [← key u a (by grind)]
    have h7 := hx u c (by grind)
    have e1 : ((1 : Int) : Rat) = 1 := rfl
    have e2 : ((-1 : Int) : Rat) = -1 := rfl
    rcases hσ with h8 | h8 <;> subst h8
    · rw [e1] at h7
      rcases sgr_r (ev P2 (n2 + 1) u) with g | g | g <;> grind
    · rw [e2] at h7
      rcases sgr_r (ev P2 (n2 + 1) u) with g | g | g <;> grind
  rcases hp.tri (ev_lp P2 (n2 + 1)) with h9 | h9 | h9
  · exact absurd h9 hnv
  · rw [fin 1 (Or.inl rfl) h9]; exact Or.inr ⟨Or.inl rfl, h9⟩
  · rw [fin (-1) (Or.inr rfl) h9]; exact Or.inr ⟨Or.inr rfl, h9⟩
/-- changes at depths up to 1700 -/
theorem gch.fitD (h : gch P n M F d) {C : Int} {j : Nat} (c1 : 0 ≤ C) (c2 : C < 2 ^ j) (hj : j ≤ 1700) : (C.natAbs : Int) < 65536 ^ 108 ∧ ((lowv C j).natAbs : Int) < 65536 ^ 107 ∧ ∀ s, s ≤ d 0 → ∀ i, ((cT (F 0) (d 0) (lowv C j) (44 - j) (j - 44) s i).natAbs : Int) < 65536 ^ 860 := by
  have h8 : d 0 ≤ 8 := by have := h.cnt; have := h.2.2.1; omega
  have hb : ∀ k, (F 0 k).natAbs ≤ 2 ^ 52 := fun k => Nat.le_trans (h.bits.1 k) (Nat.pow_le_pow_right (by omega) (fbm_52 _ h8))
  have h3 : C.natAbs ≤ 2 ^ j := by
    have e : ((2 ^ j : Nat) : Int) = 2 ^ j := Int.natCast_pow 2 j
    generalize (2 : Nat) ^ j = A at *
    generalize (2 : Int) ^ j = B at *
    omega
  have l0 := low_bd c1 (Int.le_of_lt c2)
  refine ⟨lh16 (x := 1700) (Nat.le_trans h3 (Nat.pow_le_pow_right (by omega) hj)) (by decide), lh16 (x := 1699) (Nat.le_trans l0 (Nat.pow_le_pow_right (by omega) (by omega))) (by decide), fun s hs i => ?_⟩
  rcases Nat.lt_or_ge s i with h9 | h9
  · rw [cT_z s i h9]
    exact ip_pos (by decide) _
  · have h5 := cT_bd (n := d 0) (W := 44 - j) (f := j - 44) (Y := 1700) hb (Nat.le_trans l0 (Nat.pow_le_pow_right (by omega) (by omega))) (by omega) s i h9
    refine lh16 (x := 13700) (Nat.le_trans h5 (Nat.pow_le_pow_right (by omega) ?_)) (by decide)
    have h6 : (44 - j) * i ≤ 1700 * i := Nat.mul_le_mul_right _ (by omega)
    have h7 : 1700 * (s - i) + 1700 * i = 1700 * s := by rw [← Nat.mul_add]; congr 1; omega
    omega
end
theorem scr.mk {σ σ' : q_S} {m : Nat} (h : scr σ σ' m) : mkp σ σ' m := ⟨fun q a1 a2 a3 _ _ _ _ a8 => h.1 q a1 a2 a3 a8, fun r a => h.2 r (by omega), fun j _ => by rw [h.1 (m + 4) (by omega) (by omega) (by omega) (by omega)]⟩
theorem scr.pl {σ σ' : q_S} {m z e : Nat} {G : Nat → Int} (h : scr σ σ' m) (hz : z < 10) (he : e ≤ 8) (g : plr σ m z G e) : plr σ' m z G e := ⟨by rw [h.1 (m + 4) (by omega) (by omega) (by omega) (by omega)]; exact g.1, fun k hk => (g.2 k hk).mv (h.2 _ (by omega))⟩
theorem scr.ka {σ σ' : q_S} {m p i M j : Nat} {F : Nat → Nat → Int} {d : Nat → Nat} {C x : Int} (h : scr σ σ' m) (g : kat σ m p i F d M C j x) : kat σ' m p i F d M C j x := g.scr h.1 (h.2 _ (by omega))
theorem rV.sg {σ : q_S} {m r : Nat} {x : Int} (h : rV σ m r x) : σ (m + 3) r = x.sign := by
  obtain ⟨n, hU, -⟩ := h
  exact hU.2.1
