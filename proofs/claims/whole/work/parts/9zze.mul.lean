/-! THE REFERENCE: what multiple divides -/
theorem fac_co {P Q D : Nat → Int} {n m : Nat} (hmn : m ≤ n) (hQz : ∀ c, m < c → Q c = 0) (he : ∀ x, ev P (n + 1) x = ev D (n - m + 1) x * ev Q (m + 1) x) (hz : ∀ c, n < c → P c = 0) (c : Nat) : P c = qs D Q (n - m + 1) c := by
  refine ev_inj (n := n + 2 + c) (fun x => ?_) c (by omega)
  rw [ev_qs (v := Q) (m := m + 1) (fun k hk => hQz k (by omega)) D x (n + 2 + c) (n - m + 1) (by omega), ← he x]
  exact ev_pad (by omega) (fun k h1 h2 => hz k (by omega)) x
section
variable {P : Nat → Int} {n M : Nat} {F : Nat → Nat → Int} {d : Nat → Nat}
theorem gch.nz1 (h : gch P n M F d) (h1 : 1 ≤ d 0) {i : Int} (hi : 0 ≤ i ∧ i < vlo F d M - vhi F d M) : nz (rb (lk F d 0) (cN F d M) B0 i) (lk F d 1) := by
  obtain ⟨dq, u, w, pu, pw, bq⟩ := h.bzq h1
  exact bz_nz (h.pla (re := 32) (Or.inl rfl) (by omega) hi) pu.lp pw.lp (ev_lp _ _) bq (h.vzq (re := 32) (Or.inl rfl) (by omega) hi)
theorem od_mspec (h : gch P n M F d) (h1 : 1 ≤ d 0) {i k : Nat} (hi : (i : Int) < vlo F d M - vhi F d M) (hk : 1 ≤ k) (hkn : k + d 0 ≤ n + 1) (ho : od (rb (lk F d 0) (cN F d M) B0 (i : Int)) (lk F d 0) (ev P (n + 1)) k) : mspec P n F d M i k := by
  have hi2 : (0 : Int) ≤ (i : Int) ∧ (i : Int) < vlo F d M - vhi F d M := ⟨by omega, hi⟩
  have hp := h.pla (re := 32) (Or.inl rfl) (by omega) hi2
  have hv := h.vzq (re := 32) (Or.inl rfl) (by omega) hi2
  have hn1 := h.nz1 h1 hi2
  have dS := (h.bzq h1).1
  have key : ∀ t, t ≤ k → od (rb (lk F d 0) (cN F d M) B0 (i : Int)) (lk F d 0) (ev (drv P t) (n - t + 1)) (k - t) := by
    intro t
    induction t with
    | zero => intro _; exact ho
    | succ t ih =>
      intro ht
      have h2 := ih (by omega)
      rw [show k - t = k - (t + 1) + 1 by omega] at h2
      have dp : df (ev (drv P t) (n - t + 1)) (ev (drv P (t + 1)) (n - (t + 1) + 1)) := by
        have := ev_df (drv P t) (n - t + 1)
        rw [show n - t + 1 - 1 = n - (t + 1) + 1 by omega] at this
        exact this
      exact od_der hp (pl.ev _ _) (pl.ev _ _) dS dp hv hn1 h2
  refine ⟨hk, by omega, fun t t1 t2 => ?_, fun hle => ?_⟩
  · have h2 := key t (by omega)
    rw [show k - t = k - t - 1 + 1 by omega] at h2
    exact od_vz hp (pl.ev _ _) (pl.ev _ _) hv h2
  · have h2 := key k (Nat.le_refl _)
    rw [Nat.sub_self] at h2
    exact od_nz hp (pl.ev _ _) h2
theorem mspec.uniq (h : gch P n M F d) {i k k' : Nat} (hi : (i : Int) < vlo F d M - vhi F d M) (g : mspec P n F d M i k) (g' : mspec P n F d M i k') : k = k' := by
  have hp := h.pla (re := 32) (i := (i : Int)) (Or.inl rfl) (by omega) ⟨by omega, hi⟩
  rcases Nat.lt_trichotomy k k' with h1 | h1 | h1
  · exact absurd (g'.2.2.1 k g.1 h1) ((g.2.2.2 (by have := g'.2.1; omega)).not hp)
  · exact h1
  · exact absurd (g.2.2.1 k' g'.1 h1) ((g'.2.2.2 (by have := g.2.1; omega)).not hp)
/-- at the loop's head: W is to be divided by R -/
def mlv (P : Nat → Int) (n : Nat) (F : Nat → Nat → Int) (d : Nat → Nat) (M i : Nat) (W : Nat → Int) (w : Nat) (R : Nat → Int) (r t : Nat) : Prop := (∀ c, w < c → W c = 0) ∧ (∀ c, r < c → R c = 0) ∧ R r ≠ 0 ∧ r ≤ w ∧ w ≤ n ∧ 1 ≤ r ∧ (∀ c, (W c).natAbs ≤ 2 ^ 52) ∧ (∀ c, (R c).natAbs ≤ 2 ^ 52) ∧ (∃ Sx : Nat → Int, (∀ c, w - r < c → Sx c = 0) ∧ Sx (w - r) ≠ 0 ∧ ∀ c, W c = qs Sx R (w - r + 1) c) ∧ (∃ k, pl k ∧ ∀ x, ev P (n + 1) x = ev W (w + 1) x * k x) ∧ (∃ S', pl S' ∧ ∀ x, lk F d 0 x = ev R (r + 1) x * S' x) ∧ vz (rb (lk F d 0) (cN F d M) B0 (i : Int)) (ev R (r + 1)) ∧ (∀ j, od (rb (lk F d 0) (cN F d M) B0 (i : Int)) (lk F d 0) (ev W (w + 1)) j → od (rb (lk F d 0) (cN F d M) B0 (i : Int)) (lk F d 0) (ev P (n + 1)) (t + j)) ∧ ((t = 0 ∧ w = n ∧ r = d 0) ∨ (1 ≤ t ∧ w + d 0 + (t - 1) ≤ n))
/-- behind the division -/
def mle (P : Nat → Int) (n : Nat) (F : Nat → Nat → Int) (d : Nat → Nat) (M i : Nat) (W : Nat → Int) (w t : Nat) : Prop := (∀ c, w < c → W c = 0) ∧ W w ≠ 0 ∧ gn W (w + 1) = 1 ∧ w ≤ n ∧ (∃ k, pl k ∧ ∀ x, ev P (n + 1) x = ev W (w + 1) x * k x) ∧ (∀ j, od (rb (lk F d 0) (cN F d M) B0 (i : Int)) (lk F d 0) (ev W (w + 1)) j → od (rb (lk F d 0) (cN F d M) B0 (i : Int)) (lk F d 0) (ev P (n + 1)) (t + j)) ∧ 1 ≤ t ∧ w + d 0 + (t - 1) ≤ n
theorem mle.lb (h : gch P n M F d) {i w t : Nat} {W : Nat → Int} (g : mle P n F d M i W w t) : l1 W (w + 1) ≤ 2 ^ 52 := by
  obtain ⟨g1, g2, g3, g4, ⟨k, pk, ek⟩, -⟩ := g
  obtain ⟨a1, Q, b1, b2, b3, b4⟩ := int_fac h.1 h.2.1 g1 g2 g3 pk ek
  have := fac_l1 a1 g1 b2 (fun x => by rw [b4 x, ek x]; grind) h.2.2.1 h.2.2.2.1 h.1
  exact Nat.le_trans this (Nat.pow_le_pow_right (by omega) (fbm_52 _ (by have := h.2.2.1; omega)))
theorem mlv.init (h : gch P n M F d) (h1 : 1 ≤ d 0) {i : Nat} (hi : (i : Int) < vlo F d M - vhi F d M) : mlv P n F d M i P n (F 0) (d 0) 0 := by
  have hi2 : (0 : Int) ≤ (i : Int) ∧ (i : Int) < vlo F d M - vhi F d M := ⟨by omega, hi⟩
  have hv := h.vzq (re := 32) (Or.inl rfl) (by omega) hi2
  have hzq := h.zq 0 (by omega)
  have hcn := h.cnt
  have h8 : d 0 ≤ 8 := by have := h.2.2.1; omega
  have h0 := h
  obtain ⟨p1, p2, p3, p4, p5⟩ := h0
  rcases p5 with ⟨a1, a2, a3, a4⟩ | ⟨a1, a2, -, a4, a5, a6, a7⟩
  · omega
  obtain ⟨f1, f2, f3, D, f4, f5, f6, -⟩ := a7
  exact ⟨p1, hzq.1, hzq.2, f1, Nat.le_refl _, h1, fun c => Nat.le_trans (p4 c) (by decide), l1_all hzq.1 (h.l52), ⟨D, f4, f5, fac_co f1 f2 f6 p1⟩, ⟨fun _ => 1, pl.const 1, fun x => by grind⟩, ⟨fun _ => 1, pl.const 1, fun x => by show ev (F 0) (d 0 + 1) x = _; grind⟩, hv, fun j hj => by rw [Nat.zero_add]; exact hj, Or.inl ⟨rfl, rfl, rfl⟩⟩
/-- the division -/
theorem mlv.div (h : gch P n M F d) (h1 : 1 ≤ d 0) {i w r t : Nat} {W R : Nat → Int} (hi : (i : Int) < vlo F d M - vhi F d M) (g : mlv P n F d M i W w R r t) : exs R (r + 1) W (w + 1) (w - r + 1) (w - r) ≠ 0 ∧ mle P n F d M i (prm (exs R (r + 1) W (w + 1) (w - r + 1)) (w - r + 1)) (w - r) (t + 1) := by
  have hi2 : (0 : Int) ≤ (i : Int) ∧ (i : Int) < vlo F d M - vhi F d M := ⟨by omega, hi⟩
  have hp := h.pla (re := 32) (Or.inl rfl) (by omega) hi2
  have hn1 := h.nz1 h1 hi2
  have dS := (h.bzq h1).1
  obtain ⟨g1, g2, g3, g4, g5, g6, g7, g8, ⟨Sx, s1, s2, s3⟩, ⟨k, pk, ek⟩, ⟨S', pS, eS⟩, gv, go, gt⟩ := g
  obtain ⟨y1, y2⟩ := exs_ok g4 g2 g3 g1 s1 s2 s3
  generalize prm (exs R (r + 1) W (w + 1) (w - r + 1)) (w - r + 1) = V at *
  refine ⟨y1, ?_⟩
  obtain ⟨kk, hkk, ekk⟩ := y2.mul s1
  have hl := y2.lead s2
  rw [Nat.add_sub_cancel] at hl
  have hkr : (kk : Rat) ≠ 0 := fun h0 => hkk (by exact_mod_cast h0)
  have eW : ∀ x, ev W (w + 1) x = ((kk : Rat) * ev R (r + 1) x) * ev V (w - r + 1) x := fun x => by
    have e1 := ev_qs (v := R) (m := r + 1) (fun c hc => g2 c (by omega)) Sx x (w + 1) (w - r + 1) (by omega)
    rw [ev_congr (fun c _ => s3 c) x, e1, ev_k ekk (w - r + 1) x]
    grind
  have nS : nz (rb (lk F d 0) (cN F d M) B0 (i : Int)) S' := fac_nz hp (pl.ev R (r + 1)) pS eS dS hn1 gv
  refine ⟨fun c hc => y2.2.2.1 c (by omega), hl, y2.2.2.2, by omega, ⟨fun x => ((kk : Rat) * ev R (r + 1) x) * k x, ((pl.ev R (r + 1)).smul _).mul pk, fun x => by rw [ek x, eW x]; grind⟩, fun j hj => ?_, by omega, ?_⟩
  · have h2 := od_up hp (pS.smul (1 / (kk : Rat))) eW (fun x => by rw [eS x]; grind) ((nz.const hp (show (1 / (kk : Rat)) ≠ 0 by grind)).mul hp nS) hj
    have h3 := go (j + 1) h2
    rw [show t + (j + 1) = t + 1 + j by omega] at h3
    exact h3
  · rcases gt with ⟨e1, e2, e3⟩ | ⟨e1, e2⟩
    · omega
    · omega
/-- the end: nothing is left there -/
theorem mle.fin (h : gch P n M F d) (h1 : 1 ≤ d 0) {i w t : Nat} {W : Nat → Int} (hi : (i : Int) < vlo F d M - vhi F d M) (g : mle P n F d M i W w t) (hw : w = 0 ∨ ¬ vz (rb (lk F d 0) (cN F d M) B0 (i : Int)) (ev W (w + 1))) : mspec P n F d M i t := by
  have hi2 : (0 : Int) ≤ (i : Int) ∧ (i : Int) < vlo F d M - vhi F d M := ⟨by omega, hi⟩
  have hp := h.pla (re := 32) (Or.inl rfl) (by omega) hi2
  obtain ⟨g1, g2, g3, g4, -, go, gt, gd⟩ := g
  have hn : nz (rb (lk F d 0) (cN F d M) B0 (i : Int)) (ev W (w + 1)) := by
    rcases hw with hw | hw
    · subst hw
      have hne : ((W 0 : Int) : Rat) ≠ 0 := fun h9 => g2 (Rat.intCast_eq_zero_iff.1 h9)
      have := nz.const hp hne
      rw [show (fun _ => ((W 0 : Int) : Rat)) = ev W (0 + 1) from funext (fun x => (ev_one1 W x).symm)] at this
      exact this
    · rcases hp.dich (ev_lp W (w + 1)) with h9 | h9
      · exact absurd h9 hw
      · exact h9
  exact od_mspec h h1 hi gt (by omega) (go 0 (od_0 hp (pl.ev _ _) hn))
/-- .. or once more -/
theorem mle.next (h : gch P n M F d) {i w t e : Nat} {W G : Nat → Int} (g : mle P n F d M i W w t) (hd : gdv W w (F 0) (d 0) G e) (he : 1 ≤ e) (hv : vz (rb (lk F d 0) (cN F d M) B0 (i : Int)) (ev G (e + 1))) : mlv P n F d M i W w G e t := by
  have hl := g.lb h
  obtain ⟨g1, g2, g3, g4, gk, go, gt, gd⟩ := g
  obtain ⟨d1, d2, d3, d4, ra, rb', ua, ub, p1, p2, p3, p4, e1, e2, e3⟩ := hd
  obtain ⟨a1, Q, b1, b2, b3, b4⟩ := int_fac g1 g2 d2 d3 d4 p1 e1
  have hGb := Nat.le_trans (h.fac d2 d3 d4 p2 e2).1 (Nat.pow_le_pow_right (by omega) (fbm_52 e d1))
  exact ⟨g1, d2, d3, a1, g4, he, l1_all g1 hl, l1_all d2 hGb, ⟨Q, b1, b2, b3⟩, gk, ⟨rb', p2, e2⟩, hv, go, Or.inr ⟨gt, gd⟩⟩
end
