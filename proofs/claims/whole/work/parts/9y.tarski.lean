/-! WHAT A POLYNOMIAL IS AT A ROOT: the class's answer -/
/-- all roots, and all cells, lie within -B0 .. B0 -/
def B0 : Rat := 17592186044416
/-- s0 is the sign of g at root i of q -/
def sga (q : Rat → Rat) (N : Rat → Int) (i : Int) (g : Rat → Rat) (s0 : Int) : Prop := (s0 = 0 ∧ vz (rb q N B0 i) g) ∨ ((s0 = 1 ∨ s0 = -1) ∧ sa (rb q N B0 i) g s0)
theorem sga.uniq {q : Rat → Rat} {N : Rat → Int} {i : Int} {g : Rat → Rat} {s0 s1 : Int} (hp : pla (rb q N B0 i)) (h : sga q N i g s0) (h' : sga q N i g s1) : s0 = s1 := by
  rcases h with ⟨a1, a2⟩ | ⟨a1, a2⟩ <;> rcases h' with ⟨b1, b2⟩ | ⟨b1, b2⟩
  · omega
  · exact absurd b2 (a2.excl hp b1)
  · exact absurd a2 (b2.excl hp a1)
  · exact sa.uniq hp a1 b1 a2 b2
theorem sga.congr {q : Rat → Rat} {N : Rat → Int} {i : Int} {g f : Rat → Rat} {s0 : Int} (h : sga q N i g s0) (e : ∀ x, f x = g x) : sga q N i f s0 := by
  rcases h with ⟨a1, a2⟩ | ⟨a1, a2⟩
  · exact Or.inl ⟨a1, a2.congr e⟩
  · exact Or.inr ⟨a1, a2.congr e⟩
theorem sga.b {q : Rat → Rat} {N : Rat → Int} {i : Int} {g : Rat → Rat} {s0 : Int} (h : sga q N i g s0) : -1 ≤ s0 ∧ s0 ≤ 1 := by
  rcases h with ⟨a1, a2⟩ | ⟨a1, a2⟩ <;> omega
/-- a place that is a root: the sign there -/
theorem pt_sga {q g : Rat → Rat} {s N : Rat → Int} {c i : Int} (hs : rsx q s N c) (hg : lp g) {x0 : Rat} (h0 : nm q N x0 = i) (hq : q x0 = 0) (hb : ab x0 4294967297) : sga q N i g (sgr (g x0)) := by
  have hN : N x0 = i + 1 := by have := (nm_N q N x0).2.2.1 hq; omega
  have brk : ∀ w : Rat, 0 < w → w ≤ 1 → rb q N B0 i (x0 - w) (x0 + w) := fun w w0 w1 => by
    unfold ab at hb
    refine ⟨by unfold ab B0; grind, by unfold ab B0; grind, by grind, ?_, ?_, fun hq2 => ?_⟩
    · have := hs.nmm (x := x0 - w) (y := x0) (by grind); omega
    · have := hs.mono (x := x0) (y := x0 + w) (by grind); omega
    · have := hs.nmm (x := x0) (y := x0 + w) (by grind)
      have := (nm_N q N (x0 + w)).2.2.1 hq2
      omega
  obtain ⟨M, M0, -, hM⟩ := hg B0
  have near : ∀ ε : Rat, 0 < ε → ∃ w : Rat, 0 < w ∧ w ≤ 1 ∧ ∀ t, x0 - w ≤ t → t ≤ x0 + w → ab (g t - g x0) ε := by
    intro ε hε
    obtain ⟨w, w0, w1, w2⟩ := min_pos (a := ε / M) (b := 1) (by rw [Rat.div_def]; exact Rat.mul_pos hε (Rat.inv_pos.2 M0)) (by grind)
    have hw : M * w ≤ ε := by
      have := Rat.mul_le_mul_of_nonneg_left w1 (show 0 ≤ M by grind)
      rw [Rat.mul_comm M (ε / M), Rat.div_mul_cancel (by grind)] at this
      exact this
    refine ⟨w, w0, w2, fun t t1 t2 => ?_⟩
    have bt : ab t B0 := by unfold ab B0 at *; grind
    have bx : ab x0 B0 := by unfold ab B0 at *; grind
    rcases Rat.le_total (a := x0) (b := t) with h1 | h1
    · have h2 := hM x0 t bx bt h1
      exact h2.le (Rat.le_trans (Rat.mul_le_mul_of_nonneg_left (show t - x0 ≤ w by grind) (by grind)) hw)
    · have h2 := (hM t x0 bt bx h1).neg
      have h3 := h2.le (Rat.le_trans (Rat.mul_le_mul_of_nonneg_left (show x0 - t ≤ w by grind) (by grind)) hw)
      have e : -(g x0 - g t) = g t - g x0 := by grind
      rw [e] at h3
      exact h3
  rcases sgr_r (g x0) with ⟨e1, e2⟩ | ⟨e1, e2⟩ | ⟨e1, e2⟩
  · right
    refine ⟨Or.inr e1, ?_⟩
    rw [e1]
    obtain ⟨w, w0, w1, hw⟩ := near (-(g x0) / 2) (by grind)
    refine ⟨_, _, brk w w0 w1, -(g x0) / 2, by grind, fun t t1 t2 => ?_⟩
    have := hw t t1 t2
    have e9 : ((-1 : Int) : Rat) = -1 := rfl
    rw [e9]
    unfold ab at this
    grind
  · left
    refine ⟨e1, fun ε hε => ?_⟩
    obtain ⟨w, w0, w1, hw⟩ := near ε hε
    refine ⟨_, _, brk w w0 w1, fun t t1 t2 => ?_⟩
    have := hw t t1 t2
    rw [e2] at this
    have e9 : g t - 0 = g t := by grind
    rw [e9] at this
    exact this
  · right
    refine ⟨Or.inl e1, ?_⟩
    rw [e1]
    obtain ⟨w, w0, w1, hw⟩ := near (g x0 / 2) (by grind)
    refine ⟨_, _, brk w w0 w1, g x0 / 2, by grind, fun t t1 t2 => ?_⟩
    have := hw t t1 t2
    have e9 : ((1 : Int) : Rat) = 1 := rfl
    rw [e9]
    unfold ab at this
    grind
/-- the cells lie well within -/
theorem zin_ab {z lev y : Int} (h : zin z lev) (hl : -32 ≤ lev) (hy : y = z ∨ y = z + 1) : ab (dy y lev) 4294967296 := by
  have e1 := un_k (-32) (32 + lev).toNat
  rw [show (-32 : Int) + ((32 + lev).toNat : Int) = lev by omega] at e1
  have e2 : un (-32) = 4294967296 := un_ng 32
  rw [e2] at e1
  have hu := un_pos lev
  have h1 : -2 ^ (32 + lev).toNat ≤ y ∧ y ≤ 2 ^ (32 + lev).toNat := by have := h.1; have := h.2; omega
  have a1 := Rat.mul_le_mul_of_nonneg_right (Rat.intCast_le_intCast.2 h1.1) (show 0 ≤ un lev by grind)
  have a2 := Rat.mul_le_mul_of_nonneg_right (Rat.intCast_le_intCast.2 h1.2) (show 0 ≤ un lev by grind)
  rw [Rat.intCast_neg] at a1
  rw [dy_u]
  unfold ab
  grind
/-- root i lies between -2 and 2 to the 33 -/
theorem gch.brk {P : Nat → Int} {n M re : Nat} {F : Nat → Nat → Int} {d : Nat → Nat} (h : gch P n M F d) (hre : re = 32 ∨ rok (F 0) (d 0) re) (hre2 : re ≤ 32) {i : Int} (hi : 0 ≤ i ∧ i < vlo F d M - vhi F d M) : rb (lk F d 0) (cN F d M) B0 i (-8589934592) 8589934592 := by
  obtain ⟨s, hs⟩ := h.rs
  obtain ⟨r1, r2, r3⟩ := h.rch hre
  rw [dy_nR] at r1
  rw [dy_R] at r2 r3
  have hR : ((2 ^ re : Nat) : Rat) ≤ 4294967296 := nc_le (b := 4294967296) (show 2 ^ re ≤ 2 ^ 32 from Nat.pow_le_pow_right (by omega) hre2)
  have k1 := hs.nmm (x := -8589934592) (y := -((2 ^ re : Nat) : Rat)) (by grind)
  have k2 := hs.nmm (x := ((2 ^ re : Nat) : Rat)) (y := 8589934592) (by grind)
  have k3 := nm_N (lk F d 0) (cN F d M) 8589934592
  refine ⟨by unfold ab B0; grind, by unfold ab B0; grind, by grind, by omega, by omega, fun h0 => ?_⟩
  have := k3.2.2.1 h0
  omega
theorem gch.pla {P : Nat → Int} {n M re : Nat} {F : Nat → Nat → Int} {d : Nat → Nat} (h : gch P n M F d) (hre : re = 32 ∨ rok (F 0) (d 0) re) (hre2 : re ≤ 32) {i : Int} (hi : 0 ≤ i ∧ i < vlo F d M - vhi F d M) : pla (rb (lk F d 0) (cN F d M) B0 i) := by
  obtain ⟨s, hs⟩ := h.rs
  exact (hs.2.1 B0).pla hs.1 (h.brk hre hre2 hi)
/-- a squarefree q: a factor and the other one share nothing -/
theorem fac_bz {q q1 d k u w : Rat → Rat} (pd : pl d) (pk : pl k) (pu : pl u) (pw : pl w) (dq : df q q1) (e : ∀ x, q x = d x * k x) (bq : ∀ x, u x * q x + w x * q1 x = 1) : ∃ U W, pl U ∧ pl W ∧ ∀ x, U x * d x + W x * k x = 1 := by
  obtain ⟨d1, hd1, pd1⟩ := pd.df
  obtain ⟨k1, hk1, pk1⟩ := pk.df
  have h1 := (hd1.mul hk1 pd.lp pk.lp).congr (g := q) (g1 := fun x => d1 x * k x + d x * k1 x) e (fun x => rfl)
  refine ⟨fun x => u x * k x + w x * k1 x, fun x => w x * d1 x, (pu.mul pk).add (pw.mul pk1), pw.mul pd1, fun x => ?_⟩
  have h2 := dq.uniq h1 x
  have h3 := bq x
  rw [e x, h2] at h3
  rw [← h3]
  grind
theorem sgn_sq (k : Nat) : sgn k * sgn k = 1 := by rcases sgn_1 k with h | h <;> rw [h] <;> rfl
/-- the class's count over a cell is the sign of g at the root (Tarski) -/
theorem tar_sga {P : Nat → Int} {n M : Nat} {F : Nat → Nat → Int} {d : Nat → Nat} (hg : gch P n M F d) (hM : 1 ≤ M) {G : Nat → Int} {e : Nat} {M' f' g' : Nat} {F' : Nat → Nat → Int} {d' : Nat → Nat} (h : chs F' d' f' g' M') (hM' : 1 ≤ M') (h0 : ∀ x, lk F' d' 0 x = lk F d 1 x * ev G e x) (h1 : ∀ x, lk F' d' 1 x = lk F d 0 x) {i : Int} {lo hi : Rat} (hl : ab lo 4294967296) (hh : ab hi 4294967296) (n1 : cN F d M lo = i) (n2 : cN F d M hi = i + 1) (q1 : lk F d 0 lo ≠ 0) (q2 : lk F d 0 hi ≠ 0) : sga (lk F d 0) (cN F d M) i (ev G e) ((vr (fun j => sgr (lk F' d' (j + 1) lo) * sgn j) M').1 - (vr (fun j => sgr (lk F' d' (j + 1) hi) * sgn j) M').1) := by
  obtain ⟨a, c, gg, k, hk, pk, ek, -⟩ := chs_k h hM'
  have hg0 := hg
  obtain ⟨p1, p2, p3, p4, p5⟩ := hg0
  rcases p5 with ⟨-, a2, -⟩ | ⟨-, -, ⟨f, g, -, -, a3⟩, a4, a5, a6, a7⟩
  · omega
  obtain ⟨⟨s, hs⟩, hdf, u, w, pu, pw, bq⟩ := chs_rsx a3 hM a4 a5 a6
  have hs : rsx (lk F d 0) s (cN F d M) (vlo F d M - vhi F d M) := hs
  obtain ⟨S, hS⟩ : ∃ S : Rat, S = ((sgn (M' - 1) : Int) : Rat) := ⟨_, rfl⟩
  have hSS : S * S = 1 := by
    rw [hS, ← Rat.intCast_mul, sgn_sq]; rfl
  obtain ⟨T, hT⟩ : ∃ T : Nat → Rat, T = fun j => ((sgn j : Int) : Rat) := ⟨_, rfl⟩
  have hT0 : T 0 = 1 := by rw [hT]; rfl
  have hTs : ∀ j, T (j + 1) = - T j := fun j => by rw [hT]; show ((sgn (j + 1) : Int) : Rat) = _; rw [sgn_s, Rat.intCast_neg]
  -- the turned chain
  obtain ⟨kk, hkk⟩ : ∃ kk : Nat → Rat → Rat, kk = fun j x => S * T j * k (j + 1) x := ⟨_, rfl⟩
  have pkk : ∀ j, j ≤ M' - 1 → pl (kk j) := fun j hj => by
    rw [hkk]
    exact (pl.const (S * T j)).mul (pk (j + 1) (by omega))
  have hck : chn kk (M' - 1) (fun j => a (j + 1)) (fun j => c (j + 1)) (fun j x => - gg (j + 1) x) := by
    refine ⟨fun j hj => (pkk j hj).lp, fun j hj => (hk.gl (j + 1) (by omega)).neg, fun j hj => hk.ap (j + 1) (by omega), fun j hj => hk.cp (j + 1) (by omega), fun j hj x => ?_, fun x => ?_⟩
    · have h2 := hk.rc (j + 1) (by omega) x
      rw [hkk]
      show a (j + 1) * (S * T j * k (j + 1) x) + c (j + 1) * (S * T (j + 2) * k (j + 2 + 1) x) = - gg (j + 1) x * (S * T (j + 1) * k (j + 1 + 1) x)
      rw [hTs (j + 1), hTs j]
      have e9 : j + 2 + 1 = j + 1 + 2 := by omega
      rw [e9]
      generalize k (j + 1) x = A at *
      generalize k (j + 1 + 2) x = C at *
      generalize k (j + 1 + 1) x = D at *
      have : S * T j * (a (j + 1) * A + c (j + 1) * C) = S * T j * (gg (j + 1) x * D) := by rw [h2]
      grind
    · rw [hkk]
      show S * T (M' - 1) * k (M' - 1 + 1) x = 1
      have e9 : T (M' - 1) = S := by rw [hT, hS]
      rw [show M' - 1 + 1 = M' by omega, hk.en x, e9, hSS]
      grind
  have eq : ∀ x, lk F d 0 x = (fun x => S * lk F' d' M' x) x * kk 0 x := fun x => by
    rw [← h1 x, ek 1 hM' x, hkk]
    show _ = S * lk F' d' M' x * (S * T 0 * k (0 + 1) x)
    rw [hT0]
    have : S * lk F' d' M' x * (S * 1 * k (0 + 1) x) = S * S * (lk F' d' M' x * k (0 + 1) x) := by grind
    rw [this, hSS]
    grind
  have pdd : pl (fun x => S * lk F' d' M' x) := (pl.ev _ _).smul S
  obtain ⟨U, W, pU, pW, bz⟩ := fac_bz pdd (pkk 0 (Nat.zero_le _)) pu pw hdf eq bq
  -- the two counts
  have hcnt : ∀ x, lk F d 0 x ≠ 0 → (vr (fun j => sgr (lk F' d' (j + 1) x) * sgn j) M').1 = vx kk (M' - 1) x := by
    intro x hx
    have hd : lk F' d' M' x ≠ 0 := fun h9 => hx (by rw [eq x]; show S * lk F' d' M' x * kk 0 x = 0; rw [h9]; grind)
    unfold vx
    rw [show M' - 1 + 1 = M' by omega]
    refine ((vr_neg (σ := sgr (S * lk F' d' M' x)) (n := M') (s := fun j => sgr (kk j x)) (t := fun j => sgr (lk F' d' (j + 1) x) * sgn j) ?_ (fun j hj => ?_)).1)
    · refine sgr_pm (fun h9 => ?_)
      rcases Rat.mul_eq_zero.1 h9 with h8 | h8
      · rw [h8] at hSS; grind
      · exact hd h8
    · have e1 : sgn j = sgr (T j) := by
        rw [hT]
        show sgn j = sgr ((sgn j : Int) : Rat)
        rw [sgr_int]
        rcases sgn_1 j with h9 | h9 <;> rw [h9] <;> rfl
      show sgr (lk F' d' (j + 1) x) * sgn j = sgr (S * lk F' d' M' x) * sgr (kk j x)
      rw [e1, ← sgr_m, ← sgr_m, ek (j + 1) (by omega) x, hkk]
      show sgr (lk F' d' M' x * k (j + 1) x * T j) = sgr (S * lk F' d' M' x * (S * T j * k (j + 1) x))
      congr 1
      have : S * lk F' d' M' x * (S * T j * k (j + 1) x) = S * S * (lk F' d' M' x * k (j + 1) x * T j) := by grind
      rw [this, hSS]
      grind
  rw [hcnt lo q1, hcnt hi q2]
  have bl : ab lo B0 := hl.le (by unfold B0; grind)
  have bh : ab hi B0 := hh.le (by unfold B0; grind)
  -- Tarski
  have fin : ∀ (α β : Rat) (Q : Rat → Rat), 0 < α → 0 < β → lp Q → (1 ≤ M' - 1 → ∀ x, α * (lk F d 1 x * ev G e x) = Q x * lk F d 0 x + β * ((fun x => S * lk F' d' M' x) x * kk 1 x)) → (M' - 1 = 0 → ∀ x, α * (lk F d 1 x * ev G e x) = Q x * lk F d 0 x) → sga (lk F d 0) (cN F d M) i (ev G e) (vx kk (M' - 1) lo - vx kk (M' - 1) hi) := by
    intro α β Q hα hβ lQ tk tk0
    rcases (hs.2.1 B0).tarski hs.1 hck pdd.lp pU.lp pW.lp (ev_lp _ _) pu.lp pw.lp (ev_lp G e) lQ hdf eq bz bq hα hβ tk tk0 bl bh n1 n2 q1 q2 with h9 | h9
    · exact Or.inl h9
    · exact Or.inr h9
  rcases Nat.lt_or_ge 1 M' with h9 | h9
  · refine fin (a 0) (c 0) (gg 0) (hk.ap 0 (by omega)) (hk.cp 0 (by omega)) (hk.gl 0 (by omega)) (fun _ x => ?_) (fun h8 => by omega)
    have h2 := hk.rc 0 (by omega) x
    rw [← h0 x, ek 0 (by omega) x, ← h1 x, ek 1 hM' x, hkk]
    show a 0 * (lk F' d' M' x * k 0 x) = gg 0 x * (lk F' d' M' x * k 1 x) + c 0 * (S * lk F' d' M' x * (S * T (0 + 1) * k (1 + 1) x))
    rw [hTs 0, hT0]
    have e8 : S * lk F' d' M' x * (S * -1 * k (1 + 1) x) = -(S * S * (lk F' d' M' x * k (0 + 2) x)) := by grind
    rw [e8, hSS]
    have h3 : k (0 + 1) x = k 1 x := rfl
    rw [h3] at h2
    generalize k 0 x = A at *
    generalize k 1 x = C at *
    generalize k (0 + 2) x = D at *
    generalize lk F' d' M' x = E at *
    have h4 : E * (a 0 * A + c 0 * D) = E * (gg 0 x * C) := by rw [h2]
    grind
  · refine fin 1 1 (k 0) (by grind) (by grind) (pk 0 (by omega)).lp (fun h8 => by omega) (fun _ x => ?_)
    rw [← h0 x, ek 0 (by omega) x, ← h1 x]
    rw [show M' = 1 by omega]
    grind
