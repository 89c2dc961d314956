/-! THE REFERENCE: divisor and isZeroAt over polynomials -/
theorem rpow_ne {x : Rat} (hx : x ≠ 0) : ∀ n : Nat, x ^ n ≠ 0
  | 0 => by rw [Rat.pow_zero]; grind
  | n + 1 => by
    rw [Rat.pow_succ]
    intro h
    rcases Rat.mul_eq_zero.1 h with h1 | h1
    · exact rpow_ne hx n h1
    · exact hx h1
theorem nz.pow {br : Rat → Rat → Prop} (hp : pla br) {f : Rat → Rat} (h : nz br f) : ∀ n : Nat, nz br (fun x => f x ^ n)
  | 0 => by
    rw [show (fun x => f x ^ 0) = fun _ => (1 : Rat) from funext (fun x => Rat.pow_zero _)]
    exact nz.const hp (by grind)
  | n + 1 => by
    rw [show (fun x => f x ^ (n + 1)) = fun x => f x ^ n * f x from funext (fun x => Rat.pow_succ _ _)]
    exact (nz.pow hp h n).mul hp h
/-- what is repeated is made of the part's factors -/
theorem fcp_K {P Q : Nat → Int} {n m : Nat} (h : fcp P n Q m) : ∃ (D : Rat → Rat) (c : Rat) (K : Rat → Rat), pl D ∧ pl K ∧ c ≠ 0 ∧ (∀ x, ev P (n + 1) x = D x * ev Q (m + 1) x) ∧ ∀ x, c * ev Q (m + 1) x ^ (n - m) = D x * K x := by
  obtain ⟨h1, h2, h3, D, d1, d2, d3, T, U, W, pT, pU, pW, t1, t2⟩ := h
  have dD : df (ev D (n - m + 1)) (ev (dP D) (n - m)) := ev_df D (n - m + 1)
  have dQ : df (ev Q (m + 1)) (ev (dP Q) m) := ev_df Q (m + 1)
  have dPP : df (ev P (n + 1)) (ev (dP P) n) := ev_df P (n + 1)
  have hd := (dD.mul dQ (ev_lp _ _) (ev_lp _ _)).congr (g := ev P (n + 1)) (g1 := fun x => ev (dP D) (n - m) x * ev Q (m + 1) x + ev D (n - m + 1) x * ev (dP Q) m x) d3 (fun x => rfl)
  have he : ∀ x, ev (dP D) (n - m) x * ev Q (m + 1) x = ev D (n - m + 1) x * (T x - ev (dP Q) m x) := fun x => by
    have e1 := dPP.uniq hd x
    rw [t1 x] at e1
    grind
  obtain ⟨c, K, pK, hc, hK⟩ := slopes (n := n - m) (pl.ev D (n - m + 1)) (pl.ev Q (m + 1)) (pT.sub (pl.ev (dP Q) m)) dD he (pb.evl D (n - m + 1))
  exact ⟨_, c, K, pl.ev D (n - m + 1), pK, hc (ev_ne0 d2) (dg_ev d2), d3, hK⟩
theorem fcp_vz {br : Rat → Rat → Prop} (hp : pla br) {P Q : Nat → Int} {n m : Nat} (h : fcp P n Q m) : vz br (ev P (n + 1)) ↔ vz br (ev Q (m + 1)) := by
  obtain ⟨D, c, K, pD, pK, hc, e1, e2⟩ := fcp_K h
  constructor
  · intro hv
    rcases hp.dich (ev_lp Q (m + 1)) with h1 | h1
    · exact h1
    · exfalso
      have h2 : vz br D := vz.of_mul hp pD.lp (hv.congr (fun x => (e1 x).symm)) h1
      have h3 : nz br (fun x => c * ev Q (m + 1) x ^ (n - m)) := (nz.const hp hc).mul hp (nz.pow hp h1 (n - m))
      exact h3.not hp ((h2.mul hp pK.lp).congr e2)
  · intro hv
    exact (hv.mul hp pD.lp).congr (fun x => by rw [e1 x, Rat.mul_comm])
theorem fcp_z {P Q : Nat → Int} {n m : Nat} (h : fcp P n Q m) (x : Rat) : ev P (n + 1) x = 0 ↔ ev Q (m + 1) x = 0 := by
  obtain ⟨D, c, K, pD, pK, hc, e1, e2⟩ := fcp_K h
  constructor
  · intro hv
    rw [e1 x] at hv
    rcases Rat.mul_eq_zero.1 hv with h1 | h1
    · refine Classical.byContradiction (fun h2 => ?_)
      have h3 := e2 x
      rw [h1, Rat.zero_mul] at h3
      rcases Rat.mul_eq_zero.1 h3 with h4 | h4
      · exact hc h4
      · exact rpow_ne h2 _ h4
    · exact h1
  · intro hv
    rw [e1 x, hv, Rat.mul_zero]
/-- G is the divisor of A and B, without a common factor of its coefficients -/
def gdv (A : Nat → Int) (a : Nat) (B : Nat → Int) (b : Nat) (G : Nat → Int) (e : Nat) : Prop := e ≤ 8 ∧ (∀ c, e < c → G c = 0) ∧ G e ≠ 0 ∧ gn G (e + 1) = 1 ∧ cmf (ev A (a + 1)) (ev B (b + 1)) (ev G (e + 1))
theorem ev_k {A G : Nat → Int} {k : Int} (e : ∀ c, A c = k * G c) (n : Nat) (x : Rat) : ev A n x = (k : Rat) * ev G n x := by
  have h4 := ev_lin k 0 G (fun _ => 0) x n
  rw [ev_congr (Q := A) (fun j _ => by rw [e j]; omega) x] at h4
  rw [h4]
  have : ((0 : Int) : Rat) = 0 := rfl
  grind
theorem div_g {A B : Nat → Int} {a b : Nat} (hA : ∀ c, a < c → A c = 0) (hB : ∀ c, b < c → B c = 0) (a0 : A a ≠ 0) (b0 : B b ≠ 0) (ha8 : a ≤ 8) (hb8 : b ≤ 8) (lA : l1 A (a + 1) ≤ 2 ^ 52) (lB : l1 B (b + 1) ≤ 2 ^ 52) : dsB A B (a + 1) (b + 1) ∧ ∀ s, (dst A B (a + 1) (b + 1) s).2.2 = 0 → ∃ e, (dst A B (a + 1) (b + 1) s).1.2 = e + 1 ∧ gdv A a B b (dst A B (a + 1) (b + 1) s).1.1 e := by
  obtain ⟨M, F, d, hM, hch, hor, hds, hfin⟩ := dst_any hA hB a0 b0 ha8 hb8 lA lB
  refine ⟨hds, fun s hs => ?_⟩
  have hpq := hfin s hs
  have h80 : d 0 ≤ 8 := by omega
  have hM8 := (chs_832 hch h80 M (Nat.le_refl _)).1
  have hcm := chs_cmf hch hM
  have hFM : (∀ c, d M < c → F M c = 0) ∧ F M (d M) ≠ 0 := by
    obtain ⟨sc, ht, hc, -⟩ := hch
    exact hc.1 M (Nat.le_refl _)
  generalize (dst A B (a + 1) (b + 1) s).1.1 = G at *
  generalize (dst A B (a + 1) (b + 1) s).1.2 = g at *
  obtain ⟨k, hk, ek⟩ := hpq.mul hFM.1
  have hl := hpq.lead hFM.2
  have h1 := hpq.1
  rw [h1, Nat.add_sub_cancel] at hl
  refine ⟨d M, h1, hM8, fun c hc => hpq.2.2.1 c (by omega), hl, by rw [← h1]; exact hpq.2.2.2, ?_⟩
  have hkr : (k : Rat) ≠ 0 := fun h0 => hk (by exact_mod_cast h0)
  have hcm := hcm.scale (D' := ev G (d M + 1)) hkr (fun x => ev_k ek (d M + 1) x)
  rcases hor with ⟨-, e0, e1, f0, f1⟩ | ⟨-, e0, e1, f0, f1⟩
  · have t0 : lk F d 0 = ev A (a + 1) := by funext x; unfold lk; rw [e0, f0]
    have t1 : lk F d 1 = ev B (b + 1) := by funext x; unfold lk; rw [e1, f1]
    rw [t0, t1] at hcm
    exact hcm
  · have t0 : lk F d 0 = ev B (b + 1) := by funext x; unfold lk; rw [e0, f0]
    have t1 : lk F d 1 = ev A (a + 1) := by funext x; unfold lk; rw [e1, f1]
    rw [t0, t1] at hcm
    exact hcm.swap
/-- what divisor leaves alone -/
def dvF (σ σ' : q_S) (m o : Nat) : Prop := (∀ r, (r < 97 ∨ 103 ≤ r) → (r < 45 ∨ 72 ≤ r) → (r < 9 * o ∨ 9 * o + 9 ≤ r) → rE σ σ' m r) ∧ (∀ j, j ≠ o → j ≠ 5 → j ≠ 6 → j ≠ 7 → σ' (m + 4) j = σ (m + 4) j) ∧ (∀ q, q ≠ m + 1 → q ≠ m + 2 → q ≠ m + 3 → q ≠ m + 4 → q ≠ m + 9 → σ' q = σ q)
/-- polynomial p of the reference is A, of degree a -/
def plr (σ : q_S) (m p : Nat) (A : Nat → Int) (a : Nat) : Prop := σ (m + 4) p = (a : Int) ∧ ∀ k, k ≤ a → rV σ m (9 * p + k) (A k)
theorem al_Mo_divisor (l : Launch) (K : pw_K) {L : q_L} {σ : q_S} {m o p i a b : Nat} {A B : Nat → Int} (hL : mL L m) (ho : o < 10) (hp : p < 10) (hi : i < 10) (ho5 : o < 5 ∨ 7 < o) (hp5 : p < 5 ∨ 7 < p) (hi5 : i < 5 ∨ 7 < i) (hA : plr σ m p A a) (hB : plr σ m i B b) (zA : ∀ c, a < c → A c = 0) (zB : ∀ c, b < c → B c = 0) (nA : A a ≠ 0) (nB : B b ≠ 0) (ha8 : a ≤ 8) (hb8 : b ≤ 8) (lA : l1 A (a + 1) ≤ 2 ^ 52) (lB : l1 B (b + 1) ≤ 2 ^ 52) : q_C l K L y_Mo_divisor b_Mo_divisor 4 none 4 [.ref m, vi o, vi p, vi i] σ (fun v σ' => v = none ∧ (∃ (G : Nat → Int) (e : Nat), gdv A a B b G e ∧ plr σ' m o G e) ∧ dvF σ σ' m o) := by
  obtain ⟨hds, hfin⟩ := div_g zA zB nA nB ha8 hb8 lA lB
  refine q_C.mono (c_Mo_divisor l K (o := o) (p := p) (i := i) (n := a + 1) (b := b + 1) (u := 521) (v := 53) (P := A) (Q := B) hL ho hp hi ho5 hp5 hi5 (by omega) (by omega) (by omega) (by omega) (by rw [hA.1]; omega) (by rw [hB.1]; omega) (fun k hk => hA.2 k (by omega)) (fun k hk => hB.2 k (by omega)) (by rw [Nat.add_sub_cancel]; exact nA) (by rw [Nat.add_sub_cancel]; exact nB) (fun k _ => lh16 (l1_all zA lA k) (by decide)) (fun k _ => lh16 (l1_all zB lB k) (by decide)) hds (by decide)) (fun v σ' hp' => ?_)
  obtain ⟨rfl, s, j1, j2, j3, j4, j5, j6⟩ := hp'
  obtain ⟨e, he, hg⟩ := hfin s j1
  exact ⟨rfl, ⟨_, e, hg, by rw [j2, he]; omega, fun k hk => j3 k (by omega)⟩, j4, j5, j6⟩
theorem hv_876 {A : Nat → Int} {X : Int} {ex m i : Nat} (hA : ∀ k, (A k).natAbs ≤ 2 ^ 55) (hX : X.natAbs ≤ 2 ^ 1990) (he : ex ≤ 1990) (hi : i ≤ 8) : ((hv A m X ex i).natAbs : Int) < 65536 ^ 876 := by
  refine lh16 (x := 13988) (Nat.le_trans (hv_bd hA hX he i) ?_) (by decide)
  refine Nat.le_trans (Nat.mul_le_mul (show i ≤ 2 ^ 3 by omega) (Nat.pow_le_pow_right (by omega) (show 55 + 1990 * (i - 1) ≤ 13985 by omega))) ?_
  rw [← Nat.pow_add]
  exact Nat.le_refl _
theorem low_s {C : Int} {j : Nat} (hj : 44 ≤ j) : lowv (C + 1) j = lowv C j + 1 * 1 := by
  unfold lowv
  rw [if_neg (by omega), if_neg (by omega), show 44 - j = 0 by omega, Int.pow_zero]
  omega
/-- what isZeroAt leaves alone -/
def izF (σ σ' : q_S) (m : Nat) : Prop := (∀ q, q ≠ m + 1 → q ≠ m + 2 → q ≠ m + 3 → q ≠ m + 4 → q ≠ m + 9 → σ' q = σ q) ∧ (∀ j, j ≠ 7 → σ' (m + 4) j = σ (m + 4) j) ∧ (∀ r, (r < 63 ∨ 71 ≤ r) → (r < 96 ∨ 125 ≤ r) → rE σ σ' m r)
theorem izF.rfl {σ : q_S} {m : Nat} : izF σ σ m := ⟨fun _ _ _ _ _ _ => Eq.refl _, fun _ _ => Eq.refl _, fun _ _ _ => rE.rfl⟩
theorem al_Mo_isZeroAt (l : Launch) (K : pw_K) {L : q_L} {σ : q_S} {m z p i n M j e : Nat} {P G : Nat → Int} {F : Nat → Nat → Int} {d : Nat → Nat} {C x : Int} (hL : mL L m) (hz : z < 7 ∨ (7 < z ∧ z < 10)) (hp : p < 2) (hi : i < 8) (hg : gch P n M F d) (h1 : 1 ≤ d 0) (hic : (i : Int) < vlo F d M - vhi F d M) (hk : kat σ m p i F d M C j x) (hj1 : 44 ≤ j) (hj : j ≤ 1980) (he8 : e ≤ 8) (Gz : ∀ c, e < c → G c = 0) (Ge : G e ≠ 0) (Gn : gn G (e + 1) = 1) (hG : plr σ m z G e) {k : Rat → Rat} (pk : pl k) (hf : ∀ x, lk F d 0 x = ev G (e + 1) x * k x) : q_C l K L y_Mo_isZeroAt b_Mo_isZeroAt 7 (some .boolean) 5 [.ref m, vi z, vi p, vi i] σ (fun r σ' => (∃ b : Int, r = some (vi b) ∧ ((b = 0 ∧ ¬ vz (rb (lk F d 0) (cN F d M) B0 (i : Int)) (ev G (e + 1))) ∨ (b = 1 ∧ 1 ≤ e ∧ vz (rb (lk F d 0) (cN F d M) B0 (i : Int)) (ev G (e + 1))))) ∧ izF σ σ' m) := by
  have hi2 : (0 : Int) ≤ (i : Int) ∧ (i : Int) < vlo F d M - vhi F d M := ⟨by omega, hic⟩
  have hpl := hg.pla (re := 32) (Or.inl rfl) (by omega) hi2
  rcases Nat.eq_zero_or_pos e with h0 | h0
  · subst h0
    refine q_C.mono (c_Mo_isZeroAt0 l K (n := 0) hL (by omega) (by rw [hG.1]; rfl) (by omega)) (fun r σ' hp' => ?_)
    obtain ⟨rfl, rfl⟩ := hp'
    refine ⟨⟨0, rfl, Or.inl ⟨rfl, fun hv => ?_⟩⟩, izF.rfl⟩
    have hne : ((G 0 : Int) : Rat) ≠ 0 := fun h9 => Ge (Rat.intCast_eq_zero_iff.1 h9)
    exact (nz.const hpl hne).not hpl (hv.congr (fun x => (ev_one1 G x).symm))
  · have hfit := hg.fitR hk.2.2.2.1 hk.2.2.2.2.1 (show j ≤ 1989 by omega)
    have hb52 : ∀ k, (G k).natAbs ≤ 2 ^ 52 := l1_all Gz (Nat.le_trans (hg.fac Gz Ge Gn pk hf).1 (Nat.pow_le_pow_right (by omega) (fbm_52 e he8)))
    have hb5 : ∀ k, (G k).natAbs ≤ 2 ^ 55 := fun k => Nat.le_trans (hb52 k) (Nat.pow_le_pow_right (by omega) (by omega))
    have hb3 : ∀ k, (G (k + 1) * ((k : Int) + 1)).natAbs ≤ 2 ^ 55 := fun k => by
      rcases Nat.lt_or_ge k e with h9 | h9
      · rw [Int.natAbs_mul]
        exact Nat.le_trans (Nat.mul_le_mul (hb52 _) (show ((k : Int) + 1).natAbs ≤ 8 by omega)) (by decide)
      · rw [Gz (k + 1) (by omega), Int.zero_mul]; exact Nat.zero_le _
    have c1 := hk.2.2.2.1
    have c2 := hk.2.2.2.2.1
    have l0 := Nat.le_trans (low_bd c1 (Int.le_of_lt c2)) (Nat.pow_le_pow_right (n := 2) (by omega) (show 43 + (j - 44) ≤ 1990 by omega))
    have l9 := Nat.le_trans (low_bd (C := C + 1) (j := j) (by omega) (by omega)) (Nat.pow_le_pow_right (n := 2) (by omega) (show 43 + (j - 44) ≤ 1990 by omega))
    rw [low_s hj1] at l9
    have hx01 : x = 0 ∨ x = 1 := by rcases hk.2.2.2.2.2 with ⟨h9, -⟩ | ⟨h9, -⟩ <;> omega
    have hw3 : 4 + (j - 44) * e / 16 + 2 ≤ 1023 := by
      have h3 : (j - 44) * e ≤ 1980 * 8 := Nat.mul_le_mul (by omega) (by omega)
      have h4 := Nat.div_le_div_right (c := 16) h3
      omega
    refine q_C.mono (c_Mo_isZeroAt l K (n := e) (D := j) (cu := 126) (u := 876) (v := 126) (c := 4) (P := G) hL hz hp hi he8 h0 hG.1 hG.2 (fun k _ => lh16 (hb52 k) (by decide)) hk.1 hfit.1 hk.2.1 hk.2.2.1 hx01 (by omega) (by decide) (lh16 l0 (by decide)) (fun i hi => hv_876 hb5 l0 (by omega) (by omega)) (fun i hi => hv_876 hb3 l0 (by omega) (by omega)) (lh16 l9 (by decide)) (fun i hi => hv_876 hb5 l9 (by omega) (by omega)) (fun i hi => hv_876 hb3 l9 (by omega) (by omega)) (by decide) (by decide) hw3 (by omega)) (fun r σ' hp' => ?_)
    obtain ⟨rfl, k1, k2, k3⟩ := hp'
    refine ⟨⟨_, rfl, ?_⟩, k1, k2, fun r a1 a2 => k3 r (by omega) (by omega) (by omega) (by omega) (by omega) (by omega) a1⟩
    rcases iz_ok hg h1 hi2 hj1 hk.2.2.2 h0 pk hf with ⟨b1, b2⟩ | ⟨b1, b2⟩
    · exact Or.inl ⟨b1, b2⟩
    · exact Or.inr ⟨b1, h0, b2⟩
/-- what a call leaves: the two polynomials, the text, the number thrown -/
def mkp (σ σ' : q_S) (m : Nat) : Prop := (∀ q, q ≠ m + 1 → q ≠ m + 2 → q ≠ m + 3 → q ≠ m + 4 → q ≠ m + 5 → q ≠ m + 6 → q ≠ m + 7 → q ≠ m + 9 → σ' q = σ q) ∧ (∀ r, r < 18 → rE σ σ' m r) ∧ ∀ j, j < 2 → σ' (m + 4) j = σ (m + 4) j
theorem mkp.trans {σ σ1 σ2 : q_S} {m : Nat} (h : mkp σ σ1 m) (g : mkp σ1 σ2 m) : mkp σ σ2 m := ⟨fun q a1 a2 a3 a4 a5 a6 a7 a8 => (g.1 q a1 a2 a3 a4 a5 a6 a7 a8).trans (h.1 q a1 a2 a3 a4 a5 a6 a7 a8), fun r a => (h.2.1 r a).trans (g.2.1 r a), fun j a => (g.2.2 j a).trans (h.2.2 j a)⟩
theorem isoF.mk {σ σ' : q_S} {m p : Nat} (h : isoF σ σ' m p) : mkp σ σ' m := ⟨h.1, fun r a => h.2.1 r (by omega) (by omega) (by omega) (by omega), fun j a => h.2.2.1 j (by omega) (by omega)⟩
theorem dvF.mk {σ σ' : q_S} {m o : Nat} (h : dvF σ σ' m o) (ho : 2 ≤ o) : mkp σ σ' m := ⟨fun q a1 a2 a3 a4 _ _ _ a8 => h.2.2 q a1 a2 a3 a4 a8, fun r a => h.1 r (by omega) (by omega) (by omega), fun j a => h.2.1 j (by omega) (by omega) (by omega) (by omega)⟩
theorem izF.mk {σ σ' : q_S} {m : Nat} (h : izF σ σ' m) : mkp σ σ' m := ⟨fun q a1 a2 a3 a4 _ _ _ a8 => h.1 q a1 a2 a3 a4 a8, fun r a => h.2.2 r (by omega) (by omega), fun j a => h.2.1 j (by omega)⟩
theorem rfF.mk {σ σ' : q_S} {m p i : Nat} (h : rfF σ σ' m p i) : mkp σ σ' m := ⟨fun q a1 a2 a3 a4 a5 a6 _ a8 => h.1 q a1 a2 a3 a4 a5 a6 a8, fun r a => h.2.2.2 r (by omega) (by omega) (by omega), fun j a => h.2.1 j (by omega)⟩
theorem mst.mv {σ σ' : q_S} {m p p' n : Nat} {P : Nat → Int} (h : mst σ m p P n) (hp : p < 2) (hp' : p' < 2) (hne : p' ≠ p) (g : isoF σ σ' m p') : mst σ' m p P n := by
  obtain ⟨M, F, d, h1, h2, h3, h4⟩ := h
  have h8 : d 0 ≤ 8 := by have := h1.cnt; have := h1.2.2.1; omega
  have hcn := h1.cnt
  refine ⟨M, F, d, h1, fun hn => ⟨(h2 hn).1, ?_, fun k hk => ((h2 hn).2.2 k hk).mv (g.2.1 _ (by omega) (by omega) (by omega) (by omega))⟩, by rw [g.2.2.2.2 p (by omega)]; exact h3, fun i hi => ?_⟩
  · rw [g.2.2.1 (2 + p) (by omega) (by omega)]; exact (h2 hn).2.1
  · obtain ⟨C, j, x, a1, a2, a3, a4⟩ := h4 i hi
    exact ⟨C, j, x, a1.mv (g.2.1 _ (by omega) (by omega) (by omega) (by omega)), by rw [(g.2.2.2.1 _ (by omega)).1]; exact a2, by rw [(g.2.2.2.1 _ (by omega)).2]; exact a3, a4⟩
