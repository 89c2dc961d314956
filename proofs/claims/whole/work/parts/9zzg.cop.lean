/-! TWO POLYNOMIALS THAT SHARE NOTHING: how far apart their roots lie -/
theorem cop_bz0 {A B : Nat → Int} {a b : Nat} (zA : ∀ c, a < c → A c = 0) (zB : ∀ c, b < c → B c = 0) (nA : A a ≠ 0) (nB : B b ≠ 0) (ha8 : a ≤ 8) (a1 : 1 ≤ a) (hba : b ≤ a) (lA : l1 A (a + 1) ≤ 2 ^ 52) (lB : l1 B (b + 1) ≤ 2 ^ 52) {U W : Rat → Rat} (pU : pl U) (pW : pl W) (bz : ∀ x, U x * ev A (a + 1) x + W x * ev B (b + 1) x = 1) : ∃ (α β : Nat → Int) (R : Int), R ≠ 0 ∧ (∀ x, ev α b x * ev A (a + 1) x + ev β a x * ev B (b + 1) x = R) ∧ l1 α b ≤ 2 ^ 835 ∧ l1 β a ≤ 2 ^ 835 := by
  obtain ⟨M, F, d, hM, e0, e1, d0, d1, hch⟩ := chs_ex (f := 52) (g := 52) zA zB nA nB hba lA lB
  obtain ⟨aa, cc, gg, k, hk, pk, ek, -⟩ := chs_k hch hM
  obtain ⟨sc, ht, hc, -⟩ := hch
  have t0 : ∀ x, lk F d 0 x = ev A (a + 1) x := fun x => by unfold lk; rw [e0, d0]
  have t1 : ∀ x, lk F d 1 x = ev B (b + 1) x := fun x => by unfold lk; rw [e1, d1]
  have hM0 : d M = 0 := by
    have h2 : dg (lk F d M) 0 := unit_dg (r := fun x => U x * k 0 x + W x * k 1 x) (pl.ev _ _) ((pU.mul (pk 0 (by omega))).add (pW.mul (pk 1 hM))) (fun x => by
      have h3 := bz x
      rw [← t0 x, ← t1 x, ek 0 (by omega) x, ek 1 hM x] at h3
      rw [← h3]; grind)
    exact (dg_ev (hc.1 M (Nat.le_refl _)).2).eq h2
  have hdM : 1 ≤ d (M - 1) := by
    rcases Nat.eq_or_lt_of_le hM with e | e
    · subst e; show 1 ≤ d 0; omega
    · have := hc.2.2.1 (M - 1) (by omega) (by omega)
      omega
  obtain ⟨-, -, -, hR⟩ := hc.2.2.2.2.2.2.2.2.1 (d (M - 1)) hdM (by omega)
  have hR := hR rfl
  rw [e0, e1, d0, d1] at hR
  obtain ⟨α, β, R, r1, r2, r3, r4⟩ := bezout (F := A) (G := B) (n := a) (m := b) (e := 0) zA zB (by omega)
  have hB : l1 A (a + 1) ^ b * l1 B (b + 1) ^ a ≤ 2 ^ 832 := by
    refine Nat.le_trans (Nat.mul_le_mul (Nat.pow_le_pow_left lA _) (Nat.pow_le_pow_left lB _)) ?_
    rw [← Nat.pow_mul, ← Nat.pow_mul, ← Nat.pow_add]
    exact Nat.pow_le_pow_right (by omega) (by omega)
  have hL0 : 1 ≤ l1 A (a + 1) := by
    have := l1_ge (r := A) (k := a) (n := a + 1) (by omega)
    omega
  have hL1 : 1 ≤ l1 B (b + 1) := by
    have := l1_ge (r := B) (k := b) (n := b + 1) (by omega)
    omega
  have key : ∀ {A' : Nat → Int} {k l : Nat}, k ≤ 8 → 1 ≤ l → (∀ i, (A' i).natAbs * l ≤ l1 A (a + 1) ^ b * l1 B (b + 1) ^ a) → l1 A' k ≤ 2 ^ 835 := fun {A' k l} hk hl hA => by
    refine Nat.le_trans (l1_le (H := 2 ^ 832) (fun i _ => Nat.le_trans (Nat.le_mul_of_pos_right _ hl) (Nat.le_trans (hA i) hB))) ?_
    rw [show 835 = 3 + 832 by omega, Nat.pow_add]
    exact Nat.mul_le_mul_right _ hk
  refine ⟨α, β, R, fun h0 => hR (by rw [h0] at r1; exact Int.natAbs_eq_zero.1 r1.symm), fun x => ?_, key (by omega) hL0 r3, key ha8 hL1 r4⟩
  have h3 := ev_qs (v := A) (m := a + 1) (fun k hk => zA k (by omega)) α x (a + b) b (by omega)
  have h4 := ev_qs (v := B) (m := b + 1) (fun k hk => zB k (by omega)) β x (a + b) a (by omega)
  rw [← h3, ← h4, ← ev_sum, ev_congr (fun k _ => r2 k) x, ev_single, if_pos (by omega), Rat.pow_zero]; grind
theorem cop_bz {A B : Nat → Int} {a b : Nat} (zA : ∀ c, a < c → A c = 0) (zB : ∀ c, b < c → B c = 0) (nA : A a ≠ 0) (nB : B b ≠ 0) (ha8 : a ≤ 8) (hb8 : b ≤ 8) (a1 : 1 ≤ a) (lA : l1 A (a + 1) ≤ 2 ^ 52) (lB : l1 B (b + 1) ≤ 2 ^ 52) {U W : Rat → Rat} (pU : pl U) (pW : pl W) (bz : ∀ x, U x * ev A (a + 1) x + W x * ev B (b + 1) x = 1) : ∃ (α β : Nat → Int) (R : Int), R ≠ 0 ∧ (∀ x, ev α b x * ev A (a + 1) x + ev β a x * ev B (b + 1) x = R) ∧ l1 α b ≤ 2 ^ 835 ∧ l1 β a ≤ 2 ^ 835 := by
  rcases Nat.lt_or_ge a b with h | h
  · obtain ⟨α, β, R, r1, r2, r3, r4⟩ := cop_bz0 zB zA nB nA hb8 (by omega) (by omega) lB lA pW pU (fun x => by have := bz x; grind)
    exact ⟨β, α, R, r1, fun x => by have := r2 x; grind, r4, r3⟩
  · exact cop_bz0 zA zB nA nB ha8 a1 h lA lB pU pW bz
section
variable {P P2 : Nat → Int} {n M n2 M2 : Nat} {F F2 : Nat → Nat → Int} {d d2 : Nat → Nat}
/-- the part without what it shares with another: zero at the root, and a whole number is made of both -/
theorem cop_ex (h : gch P n M F d) (h1 : 1 ≤ d 0) (h2 : gch P2 n2 M2 F2 d2) {i : Int} (hi : 0 ≤ i ∧ i < vlo F d M - vhi F d M) {G : Nat → Int} {e : Nat} (hgd : gdv (F 0) (d 0) (F2 0) (d2 0) G e) (hnv : ¬ vz (rb (lk F d 0) (cN F d M) B0 i) (ev G (e + 1))) : ∃ (A : Nat → Int) (a : Nat) (α β : Nat → Int) (R : Int), a ≤ 8 ∧ l1 A (a + 1) ≤ 2 ^ 52 ∧ vz (rb (lk F d 0) (cN F d M) B0 i) (ev A (a + 1)) ∧ R ≠ 0 ∧ (∀ x, ev α (d2 0) x * ev A (a + 1) x + ev β a x * lk F2 d2 0 x = R) ∧ l1 α (d2 0) ≤ 2 ^ 835 ∧ l1 β a ≤ 2 ^ 835 := by
  have hp := h.pla (re := 32) (Or.inl rfl) (by omega) hi
  have hv := h.vzq (re := 32) (Or.inl rfl) (by omega) hi
  have h8 : d 0 ≤ 8 := by have := h.cnt; have := h.2.2.1; omega
  have h82 : d2 0 ≤ 8 := by have := h2.cnt; have := h2.2.2.1; omega
  have hzq := h.zq 0 (by omega)
  have hzq2 := h2.zq 0 (by omega)
  obtain ⟨dq, u, w, pu, pw, bq⟩ := h.bzq h1
  obtain ⟨g1, g2, g3, g4, ra, rb', ua, ub, p1, p2, p3, p4, e1, e2, e3⟩ := hgd
  have pG : pl (ev G (e + 1)) := pl.ev _ _
  obtain ⟨a1, Q, b1, b2, b3, b4⟩ := int_fac hzq.1 hzq.2 g2 g3 g4 p1 e1
  obtain ⟨U, W, pU, pW, bz⟩ := fac_bz pG p1 pu pw dq e1 bq
  have nG : nz (rb (lk F d 0) (cN F d M) B0 i) (ev G (e + 1)) := by
    rcases hp.dich pG.lp with h9 | h9
    · exact absurd h9 hnv
    · exact h9
  have hra : vz (rb (lk F d 0) (cN F d M) B0 i) ra := vz.of_mul hp p1.lp (hv.congr (fun x => by rw [show lk F d 0 x = ev G (e + 1) x * ra x from e1 x, Rat.mul_comm])) nG
  obtain ⟨x1, x2, x3⟩ := gn_ex b2
  generalize hg0 : gn Q (d 0 - e + 1) = g at *
  generalize hA : (fun c => (Q c).tdiv (g : Int)) = A at *
  have hAc : ∀ c, A c = (Q c).tdiv (g : Int) := fun c => by rw [← hA]
  have hgr : ((g : Int) : Rat) ≠ 0 := fun h9 => by
    have := Rat.intCast_eq_zero_iff.1 h9
    omega
  have zA : ∀ c, d 0 - e < c → A c = 0 := fun c hc => by rw [hAc, b1 c hc, Int.zero_tdiv]
  have nA : A (d 0 - e) ≠ 0 := fun h9 => b2 (by rw [x2 _ (Nat.le_refl _), ← hAc, h9, Int.mul_zero])
  have eA : ∀ x, ra x = ((g : Int) : Rat) * ev A (d 0 - e + 1) x := fun x => by
    rw [← b4 x]
    have h4 := ev_lin (g : Int) 0 A (fun _ => 0) x (d 0 - e + 1)
    rw [ev_congr (Q := Q) (fun j hj => by have := x2 j (by omega); rw [← hAc] at this; omega) x] at h4
    rw [h4]
    have : ((0 : Int) : Rat) = 0 := rfl
    grind
  have vA : vz (rb (lk F d 0) (cN F d M) B0 i) (ev A (d 0 - e + 1)) := by
    refine (hra.mul hp (lp.const (1 / ((g : Int) : Rat)))).congr (fun x => ?_)
    rw [eA x]; grind
  have hA1 : 1 ≤ d 0 - e := by
    rcases Nat.eq_zero_or_pos (d 0 - e) with h9 | h9
    · exfalso
      rw [h9] at nA vA
      have hne : ((A 0 : Int) : Rat) ≠ 0 := fun h9 => nA (Rat.intCast_eq_zero_iff.1 h9)
      exact (nz.const hp hne).not hp (vA.congr (fun x => (ev_one1 A x).symm))
    · exact h9
  have lA := (h.fac zA nA x3 (pG.smul ((g : Int) : Rat)) (fun x => by rw [show lk F d 0 x = ev G (e + 1) x * ra x from e1 x, eA x]; grind)).1
  have lA := Nat.le_trans lA (Nat.pow_le_pow_right (by omega) (fbm_52 (d 0 - e) (by omega)))
  have hone : ∀ x, ua x * ra x + ub x * rb' x - 1 = 0 := pl.cancel (((p3.mul p1).add (p4.mul p2)).sub (pl.const 1)) pG (fun x => by
    have h3 := e3 x
    rw [e1 x, e2 x] at h3
    grind) (ev_ne0 g3)
  obtain ⟨α, β, R, r1, r2, r3, r4⟩ := cop_bz zA hzq2.1 nA hzq2.2 (by omega) h82 hA1 lA h2.l52 (U := fun x => ((g : Int) : Rat) * (ua x * (U x * ev G (e + 1) x) + ua x * (W x * ra x) + ub x * (rb' x * W x))) (W := fun x => ub x * U x) ((((p3.mul (pU.mul pG)).add (p3.mul (pW.mul p1))).add (p4.mul (p2.mul pW))).smul _) (p4.mul pU) (fun x => by
    have t1 := hone x
    have t2 := bz x
    have t3 : (ua x * ra x + ub x * rb' x) * (U x * ev G (e + 1) x + W x * ra x) = 1 := by
      rw [t2, show ua x * ra x + ub x * rb' x = 1 by grind]; grind
    rw [show ev (F2 0) (d2 0 + 1) x = ev G (e + 1) x * rb' x from e2 x, ← t3]
    have t4 := eA x
    clear t1 t2 t3 hone bz e3 eA e1 e2 b4
    generalize ra x = r at *
    generalize ev A (d 0 - e + 1) x = y at *
    subst t4
    grind)
  exact ⟨A, d 0 - e, α, β, R, by omega, lA, vA, r1, r2, r3, r4⟩
end
theorem pt_in {br : Rat → Rat → Prop} (hp : pla br) {g : Rat → Rat} (hv : vz br g) {lo hi : Rat} (hb : br lo hi) {ε : Rat} (hε : 0 < ε) : ∃ u, lo ≤ u ∧ u ≤ hi ∧ ab (g u) ε := by
  obtain ⟨x, y, h1, h2⟩ := hv ε hε
  obtain ⟨u, v, h5, a, b, c, d⟩ := hp.2.1 lo hi x y hb h1
  have h6 := hp.1 u v h5
  exact ⟨u, a, by grind, h2 u c (by grind)⟩
theorem pw_lip {x y X w : Rat} (hX : 1 ≤ X) (hx : ab x X) (hy : ab y X) (hw : ab (y - x) w) : ∀ n : Nat, ab (y ^ n - x ^ n) ((n : Rat) * X ^ n * w)
  | 0 => by
    have : ((0 : Nat) : Rat) = 0 := rfl
    rw [Rat.pow_zero, Rat.pow_zero, this]
    unfold ab; grind
  | n + 1 => by
    have ih := pw_lip hX hx hy hw n
    have e : y ^ (n + 1) - x ^ (n + 1) = y * (y ^ n - x ^ n) + x ^ n * (y - x) := by rw [Rat.pow_succ, Rat.pow_succ]; grind
    have h1 := hy.mul ih
    have h2 := (ab_pow hx n).mul hw
    have w0 := hw.nn
    have h3 := rp_nn hX n
    rw [e]
    refine (h1.add h2).le ?_
    have h4 : X ^ n * w ≤ X ^ (n + 1) * w := Rat.mul_le_mul_of_nonneg_right (rpow_1le hX (by omega)) w0
    have h5 : ((n + 1 : Nat) : Rat) = (n : Rat) + 1 := Rat.natCast_add _ _
    rw [h5]
    have h6 : X * ((n : Rat) * X ^ n * w) = (n : Rat) * X ^ (n + 1) * w := by rw [Rat.pow_succ]; grind
    rw [h6]
    grind
theorem ev_lip {P : Nat → Int} {x y X w : Rat} (hX : 1 ≤ X) (hx : ab x X) (hy : ab y X) (hw : ab (y - x) w) (N : Nat) : ∀ n, n ≤ N + 1 → ab (ev P n y - ev P n x) (((l1 P n : Nat) : Rat) * ((N : Rat) * X ^ N * w))
  | 0, _ => by
    have : ((l1 P 0 : Nat) : Rat) = 0 := rfl
    rw [this]
    simp only [ev]
    unfold ab; grind
  | n + 1, h => by
    have ih := ev_lip hX hx hy hw N (P := P) n (by omega)
    have h1 := (ab_int (P n)).mul (pw_lip hX hx hy hw n)
    have w0 := hw.nn
    have h2 : (n : Rat) * X ^ n * w ≤ (N : Rat) * X ^ N * w := by
      refine Rat.mul_le_mul_of_nonneg_right ?_ w0
      have a1 : (n : Rat) ≤ N := Rat.natCast_le_natCast.2 (by omega)
      have a2 : (0 : Rat) ≤ n := Rat.natCast_nonneg
      exact Rat.le_trans (Rat.mul_le_mul_of_nonneg_right a1 (rp_nn hX n)) (Rat.mul_le_mul_of_nonneg_left (rpow_1le hX (by omega)) (by grind))
    have h3 := Rat.mul_le_mul_of_nonneg_left h2 (Rat.natCast_nonneg (a := (P n).natAbs))
    have e : ev P (n + 1) y - ev P (n + 1) x = (ev P n y - ev P n x) + (P n : Rat) * (y ^ n - x ^ n) := by
      simp only [ev]; grind
    rw [l1c, e]
    exact (ih.add h1).le (by grind)
theorem X43 : ((2 ^ 43 : Nat) : Rat) = 8796093022208 := rfl
theorem near_v {A : Nat → Int} {a : Nat} (ha : a ≤ 8) (lA : l1 A (a + 1) ≤ 2 ^ 52) {x y w : Rat} (hx : ab x 8796093022208) (hy : ab y 8796093022208) (hw : ab (y - x) w) : ab (ev A (a + 1) y - ev A (a + 1) x) (((2 ^ 399 : Nat) : Rat) * w) := by
  rw [← X43] at hx hy
  have h := ev_lip (P := A) (nc_le (a := 1) (b := 2 ^ 43) (Nat.pow_pos (by omega))) hx hy hw 8 (a + 1) (by omega)
  refine h.le ?_
  have w0 := hw.nn
  have e1 : ((2 ^ 43 : Nat) : Rat) ^ 8 = ((2 ^ 344 : Nat) : Rat) := by
    rw [← Rat.natCast_pow, ← Nat.pow_mul]
  have e2 : ((l1 A (a + 1) : Nat) : Rat) * (((8 : Nat) : Rat) * ((2 ^ 43 : Nat) : Rat) ^ 8 * w) = ((l1 A (a + 1) * (8 * 2 ^ 344) : Nat) : Rat) * w := by
    rw [e1, Rat.natCast_mul, Rat.natCast_mul]; grind
  rw [e2]
  refine Rat.mul_le_mul_of_nonneg_right (nc_le ?_) w0
  refine Nat.le_trans (Nat.mul_le_mul_right _ lA) ?_
  rw [show (8 : Nat) = 2 ^ 3 from rfl, ← Nat.pow_add, ← Nat.pow_add]
  exact Nat.le_refl _
theorem big_v {A : Nat → Int} {a : Nat} (ha : a ≤ 8) (lA : l1 A a ≤ 2 ^ 835) {x : Rat} (hx : ab x 8796093022208) : ab (ev A a x) ((2 ^ 1136 : Nat) : Rat) := by
  rw [← X43] at hx
  refine (ev_ab (P := A) (nc_le (a := 1) (b := 2 ^ 43) (Nat.pow_pos (by omega))) hx 7 a (by omega)).le ?_
  have e1 : ((2 ^ 43 : Nat) : Rat) ^ 7 = ((2 ^ 301 : Nat) : Rat) := by
    rw [← Rat.natCast_pow, ← Nat.pow_mul]
  rw [e1, ← Rat.natCast_mul]
  refine nc_le (Nat.le_trans (Nat.mul_le_mul_right _ lA) ?_)
  rw [← Nat.pow_add]
  exact Nat.le_refl _
theorem wd_small {j : Nat} (hj : 1600 ≤ j) : ((2 ^ 399 : Nat) : Rat) * wd j * ((2 ^ 1136 : Nat) : Rat) ≤ 1 / 16 := by
  have hD := tpp (j - 44)
  have e1 : wd j * ((2 ^ (j - 44) : Int) : Rat) = 1 := by
    unfold wd
    rw [show 44 - j = 0 by omega, tp0, Rat.div_mul_cancel (p2c _)]
  have w0 := wd_pos j
  have h1 : ((2 ^ 399 * 2 ^ 1136 * 16 : Nat) : Rat) ≤ ((2 ^ (j - 44) : Int) : Rat) := by
    rw [← ca_nn]
    refine nc_le ?_
    rw [show (16 : Nat) = 2 ^ 4 from rfl, ← Nat.pow_add, ← Nat.pow_add]
    exact Nat.pow_le_pow_right (by omega) (by omega)
  have h2 := Rat.mul_le_mul_of_nonneg_left h1 (Rat.le_of_lt w0)
  rw [e1, Rat.natCast_mul, Rat.natCast_mul] at h2
  have : ((16 : Nat) : Rat) = 16 := rfl
  rw [this] at h2
  generalize ((2 ^ 399 : Nat) : Rat) = a at *
  generalize ((2 ^ 1136 : Nat) : Rat) = b at *
  generalize wd j = w at *
  clear h1 e1
  grind
theorem cop_fin {K ε a b r q R : Rat} (hK : 0 < K) (hε : ε * K = 1 / 16) (ha : ab a K) (hb : ab b K) (hr : ab r (2 * ε)) (hq : ab q (2 * ε)) (hR : a * r + b * q = R) : ab R (1 / 4) := by
  have h1 := (ha.mul hr).add (hb.mul hq)
  rw [hR] at h1
  exact h1.le (by grind)
theorem int_big {R : Int} (h : R ≠ 0) (hb : ab (R : Rat) (1 / 4)) : False := by
  unfold ab at hb
  rcases Int.lt_or_le 0 R with h9 | h9
  · have := Rat.intCast_le_intCast (a := 1) (b := R) |>.2 (by omega)
    have e : ((1 : Int) : Rat) = 1 := rfl
    rw [e] at this
    grind
  · have := Rat.intCast_le_intCast (a := R) (b := -1) |>.2 (by omega)
    have e : ((-1 : Int) : Rat) = -1 := rfl
    rw [e] at this
    grind
section
variable {P P2 : Nat → Int} {n M n2 M2 : Nat} {F F2 : Nat → Nat → Int} {d d2 : Nat → Nat}
theorem cell_ab {C : Int} {j : Nat} (hj : 1 ≤ j) (c1 : 0 ≤ C) (c2 : C < 2 ^ j) {u : Rat} (h1 : xl C j ≤ u) (h2 : u ≤ xl C j + wd j) : ab u 8796093022208 := by
  have a1 := xl_ab hj c1 (Int.le_of_lt c2)
  have a2 := xl_ab (C := C + 1) hj (by omega) (by omega)
  rw [xl_s C hj] at a2
  unfold ab at *; grind
theorem eps_ex : ∃ ε : Rat, 0 < ε ∧ ε * ((2 ^ 1136 : Nat) : Rat) = 1 / 16 := by
  have hK : (0 : Rat) < ((2 ^ 1136 : Nat) : Rat) := Rat.natCast_pos.2 (Nat.pow_pos (by omega))
  refine ⟨1 / 16 / ((2 ^ 1136 : Nat) : Rat), ?_, Rat.div_mul_cancel (by grind)⟩
  rw [Rat.div_def (1 / 16)]
  exact Rat.mul_pos (by grind) (Rat.inv_pos.2 hK)
theorem eps_w {ε : Rat} (hε : ε * ((2 ^ 1136 : Nat) : Rat) = 1 / 16) {j : Nat} (hj : 1600 ≤ j) : ((2 ^ 399 : Nat) : Rat) * wd j ≤ ε := by
  have hK : (0 : Rat) < ((2 ^ 1136 : Nat) : Rat) := Rat.natCast_pos.2 (Nat.pow_pos (by omega))
  have h1 := wd_small hj
  rw [← hε] at h1
  exact Rat.le_of_mul_le_mul_right h1 hK
/-- deep cells that are alike hold a common root -/
theorem ord_sep (h : gch P n M F d) (h1 : 1 ≤ d 0) (h2 : gch P2 n2 M2 F2 d2) {i i2 : Int} (hi : 0 ≤ i ∧ i < vlo F d M - vhi F d M) (hi2 : 0 ≤ i2 ∧ i2 < vlo F2 d2 M2 - vhi F2 d2 M2) {G : Nat → Int} {e : Nat} (hgd : gdv (F 0) (d 0) (F2 0) (d2 0) G e) {C : Int} {j : Nat} (hj : 1600 ≤ j) (hc : rce (lk F d 0) (cN F d M) i C j 0) (hc2 : rce (lk F2 d2 0) (cN F2 d2 M2) i2 C j 0) : vz (rb (lk F d 0) (cN F d M) B0 i) (ev G (e + 1)) := by
  refine Classical.byContradiction (fun hnv => ?_)
  obtain ⟨A, a, α, β, R, a8, lA, vA, hR, hbz, lα, lβ⟩ := cop_ex h h1 h2 hi hgd hnv
  have hp := h.pla (re := 32) (Or.inl rfl) (by omega) hi
  have hp2 := h2.pla (re := 32) (Or.inl rfl) (by omega) hi2
  have hv2 := h2.vzq (re := 32) (Or.inl rfl) (by omega) hi2
  have h82 : d2 0 ≤ 8 := by have := h2.cnt; have := h2.2.2.1; omega
  obtain ⟨ε, ε0, hε⟩ := eps_ex
  obtain ⟨u, u1, u2, u3⟩ := pt_in hp vA (rce.brk h (by omega) hc) ε0
  obtain ⟨v, v1, v2, v3⟩ := pt_in hp2 hv2 (rce.brk h2 (by omega) hc2) ε0
  have bu := cell_ab (show 1 ≤ j by omega) hc.1 hc.2.1 u1 u2
  have bv := cell_ab (show 1 ≤ j by omega) hc.1 hc.2.1 v1 v2
  have w0 := wd_pos j
  have hd : ab (ev (F2 0) (d2 0 + 1) u - ev (F2 0) (d2 0 + 1) v) _ := near_v h82 h2.l52 bv bu (w := wd j) (by unfold ab; grind)
  have hw := eps_w hε hj
  have hq : ab (lk F2 d2 0 u) (2 * ε) := by
    have e9 : lk F2 d2 0 u = lk F2 d2 0 v + (ev (F2 0) (d2 0 + 1) u - ev (F2 0) (d2 0 + 1) v) := by unfold lk; grind
    rw [e9]
    exact (v3.add hd).le (by grind)
  exact int_big hR (cop_fin (Rat.natCast_pos.2 (Nat.pow_pos (by omega))) hε (big_v h82 lα bu) (big_v a8 lβ bu) (u3.le (by grind)) hq (hbz u))
/-- deep cells of a root where the other isn't 0: no change of the other, and it isn't 0 at the low end -/
theorem sg_sep (h : gch P n M F d) (h1 : 1 ≤ d 0) (h2 : gch P2 n2 M2 F2 d2) (k1 : 1 ≤ d2 0) {i : Int} (hi : 0 ≤ i ∧ i < vlo F d M - vhi F d M) {G : Nat → Int} {e : Nat} (hgd : gdv (F 0) (d 0) (F2 0) (d2 0) G e) {C : Int} {j : Nat} (hj : 1600 ≤ j) (hc : rce (lk F d 0) (cN F d M) i C j 0) (hnv : ¬ vz (rb (lk F d 0) (cN F d M) B0 i) (ev G (e + 1))) : chg F2 d2 C j = 0 ∧ lk F2 d2 0 (xl C j) ≠ 0 := by
  obtain ⟨A, a, α, β, R, a8, lA, vA, hR, hbz, lα, lβ⟩ := cop_ex h h1 h2 hi hgd hnv
  have hp := h.pla (re := 32) (Or.inl rfl) (by omega) hi
  have h82 : d2 0 ≤ 8 := by have := h2.cnt; have := h2.2.2.1; omega
  obtain ⟨ε, ε0, hε⟩ := eps_ex
  obtain ⟨u, u1, u2, u3⟩ := pt_in hp vA (rce.brk h (by omega) hc) ε0
  have w0 := wd_pos j
  have bu := cell_ab (show 1 ≤ j by omega) hc.1 hc.2.1 u1 u2
  have bl := cell_ab (show 1 ≤ j by omega) hc.1 hc.2.1 (u := xl C j) (by grind) (by grind)
  have hd := near_v a8 lA bu bl (w := wd j) (by unfold ab; grind)
  have hw := eps_w hε hj
  have hr : ab (ev A (a + 1) (xl C j)) (2 * ε) := by
    have e9 : ev A (a + 1) (xl C j) = ev A (a + 1) u + (ev A (a + 1) (xl C j) - ev A (a + 1) u) := by grind
    rw [e9]
    exact (u3.add hd).le (by grind)
  have ha := big_v h82 lα bl
  have hb := big_v a8 lβ bl
  have hz := hbz (xl C j)
  have hK : (0 : Rat) < ((2 ^ 1136 : Nat) : Rat) := Rat.natCast_pos.2 (Nat.pow_pos (by omega))
  obtain ⟨av, av0, hav, hav2⟩ : ∃ av : Rat, 0 ≤ av ∧ ab (lk F2 d2 0 (xl C j)) av ∧ (av = lk F2 d2 0 (xl C j) ∨ av = -lk F2 d2 0 (xl C j)) := by
    by_cases h9 : 0 ≤ lk F2 d2 0 (xl C j)
    · exact ⟨_, h9, by unfold ab; grind, Or.inl rfl⟩
    · exact ⟨_, by grind, by unfold ab; grind, Or.inr rfl⟩
  have hlow : 1 ≤ 2 * (((2 ^ 1136 : Nat) : Rat) * av) := by
    have t1 := ha.mul hr
    have t2 := hb.mul hav
    have t3 := t1.add t2
    rw [hz] at t3
    have t4 : ((2 ^ 1136 : Nat) : Rat) * (2 * ε) = 1 / 8 := by grind
    rw [t4] at t3
    clear t1 t2 t4 ha hb hz hd hr
    refine Rat.not_lt.1 (fun hcon => ?_)
    generalize ((2 ^ 1136 : Nat) : Rat) * av = y at *
    unfold ab at t3
    rcases Int.lt_or_le 0 R with h9 | h9
    · have := Rat.intCast_le_intCast (a := 1) (b := R) |>.2 (by omega)
      have e : ((1 : Int) : Rat) = 1 := rfl
      rw [e] at this
      grind
    · have := Rat.intCast_le_intCast (a := R) (b := -1) |>.2 (by omega)
      have e : ((-1 : Int) : Rat) = -1 := rfl
      rw [e] at this
      grind
  refine ⟨?_, fun h0 => ?_⟩
  · have hf : 1556 ≤ j - 44 := by omega
    have hLo := low_bd hc.1 (Int.le_of_lt hc.2.1)
    unfold chg
    rw [show 44 - j = 0 by omega]
    obtain ⟨t0, -⟩ := cT_01 (F2 0) k1 (lowv C j) (j - 44)
    have t0 : ((cT (F2 0) (d2 0) (lowv C j) 0 (j - 44) (d2 0) 0 : Int) : Rat) = ((2 ^ ((j - 44) * d2 0) : Int) : Rat) * lk F2 d2 0 (xl C j) := t0
    have hB := cT_bd (P := F2 0) (n := d2 0) (Lo := lowv C j) (W := 0) (f := j - 44) (c := fbm (d2 0)) (Y := 43 + (j - 44)) h2.bits.1 hLo (by omega) (d2 0)
    have h344 := fbm_344 _ h82
    generalize lk F2 d2 0 (xl C j) = lv at *
    generalize hT : cT (F2 0) (d2 0) (lowv C j) 0 (j - 44) (d2 0) = T at *
    generalize d2 0 = m at *
    generalize j - 44 = f at *
    have e1 : ∀ k, 1 ≤ k → k ≤ m → (T k).natAbs ≤ 2 ^ (344 + f * (m - 1)) := fun k k1 k2 => by
      refine Nat.le_trans (hB k k2) (Nat.pow_le_pow_right (by omega) ?_)
      rw [Nat.zero_mul, Nat.add_mul]
      have := Nat.mul_le_mul_left 43 (show m - k ≤ m - 1 by omega)
      have := Nat.mul_le_mul_left f (show m - k ≤ m - 1 by omega)
      omega
    have fm : f * m = f * (m - 1) + f := by
      obtain ⟨j, rfl⟩ : ∃ j, m = j + 1 := ⟨m - 1, by omega⟩
      rw [Nat.add_sub_cancel, Nat.mul_succ]
    have hbig : 2 ^ (f * m) ≤ 2 ^ 1137 * (T 0).natAbs := by
      have q0 := nab_R (T 0)
      have hCp := tpp (f * m)
      have fin : ((2 ^ (f * m) : Nat) : Rat) ≤ ((2 ^ 1137 * (T 0).natAbs : Nat) : Rat) := by
        rw [Rat.natCast_mul, show (1137 : Nat) = 1136 + 1 from rfl, Nat.pow_succ, Rat.natCast_mul, ca_nn (f * m)]
        have e2 : ((2 : Nat) : Rat) = 2 := rfl
        rw [e2]
        rw [t0] at q0
        generalize ((2 ^ 1136 : Nat) : Rat) = K at *
        generalize ((2 ^ (f * m) : Int) : Rat) = D at *
        generalize (((T 0).natAbs : Nat) : Rat) = Y at *
        have y1 : D * av ≤ Y := by
          unfold ab at q0
          rcases hav2 with h9 | h9 <;> rw [h9] <;> grind
        have y2 := Rat.mul_le_mul_of_nonneg_left y1 (show 0 ≤ 2 * K by grind)
        have y3 := Rat.mul_le_mul_of_nonneg_left hlow (Rat.le_of_lt hCp)
        clear hlow y1 q0 hav hav2 t0
        grind
      exact Rat.natCast_le_natCast.1 fin
    have hlt : (m + 1) ^ m * 2 ^ (344 + f * (m - 1)) < (T 0).natAbs := by
      refine two_lt hbig (Nat.le_trans (Nat.mul_le_mul_right _ (pw_26 m h82)) ?_) (by omega)
      rw [← Nat.pow_add]
      exact Nat.pow_le_pow_right (by omega) (by omega)
    have a := be_big e1 hlt
    have h0 : (T 0).sign ≠ 0 := fun e => by rw [Int.sign_eq_zero_iff_zero.1 e] at hlt; simp at hlt
    have h5 := (vr_same (s := fun k => (be m T k).sign) h0 (n := m + 1) (fun k hk => a k (by omega))).1
    exact h5
  · rw [h0] at hav2
    have : av = 0 := by grind
    rw [this] at hlow
    grind
end
