section
variable {br : Rat → Rat → Prop}
/-- p is, at the place, S to the j: up to factors that are not 0 there -/
def od (br : Rat → Rat → Prop) (S p : Rat → Rat) (j : Nat) : Prop := ∃ a b, pl a ∧ pl b ∧ nz br a ∧ nz br b ∧ ∀ x, a x * p x = b x * S x ^ j
theorem od_0 (hp : pla br) {S p : Rat → Rat} (pp : pl p) (h : nz br p) : od br S p 0 := ⟨fun _ => 1, p, pl.const 1, pp, nz.const hp (by grind), h, fun x => by grind⟩
/-- one order less for the slope -/
theorem od_der (hp : pla br) {S S1 p p1 : Rat → Rat} {j : Nat} (pS : pl S) (pp : pl p) (dS : df S S1) (dp : df p p1) (hS : vz br S) (hS1 : nz br S1) (h : od br S p (j + 1)) : od br S p1 j := by
  obtain ⟨a, b, pa, pb, na, nb, e⟩ := h
  obtain ⟨a1, da, pa1⟩ := pa.df
  obtain ⟨b1, db, pb1⟩ := pb.df
  have pS1 := df.pl pS dS
  obtain ⟨d1, l1⟩ := df.powf dS pS.lp j
  have e2 : ∀ x, a1 x * p x + a x * p1 x = b1 x * S x ^ (j + 1) + b x * ((j + 1) * (S x ^ j * S1 x)) := fun x => by
    have h1 := da.mul dp pa.lp pp.lp
    have h2 := db.mul d1 pb.lp l1
    exact (h1.congr (fun x => rfl) (fun x => rfl)).uniq (h2.congr (fun x => e x) (fun x => rfl)) x
  refine ⟨fun x => a x * a x, fun x => (j + 1) * (a x * (b x * S1 x)) + S x * (a x * b1 x - a1 x * b x), pa.mul pa, ?_, na.mul hp na, ?_, fun x => ?_⟩
  · exact ((pa.mul (pb.mul pS1)).smul _).add (pS.mul ((pa.mul pb1).sub (pa1.mul pb)))
  · have h1 : nz br (fun x => ((j : Rat) + 1) * (a x * (b x * S1 x))) := (nz.const hp (show ((j : Rat) + 1) ≠ 0 by
      have : (0 : Rat) ≤ j := by exact_mod_cast Nat.zero_le j
      grind)).mul hp (na.mul hp (nb.mul hp hS1))
    exact h1.addz hp (hS.mul hp ((pa.mul pb1).sub (pa1.mul pb)).lp)
  · have h1 := e x
    have h2 := e2 x
    rw [Rat.pow_succ] at h1 h2
    generalize S x ^ j = Z at *
    grind
theorem od_nz (hp : pla br) {S p : Rat → Rat} (pp : pl p) (h : od br S p 0) : nz br p := by
  obtain ⟨a, b, pa, pb, na, nb, e⟩ := h
  rcases hp.dich pp.lp with hv | hn
  · exfalso
    refine nb.not hp ((hv.mul hp pa.lp).congr (fun x => ?_))
    have := e x; grind
  · exact hn
theorem od_vz (hp : pla br) {S p : Rat → Rat} {j : Nat} (pS : pl S) (pp : pl p) (hS : vz br S) (h : od br S p (j + 1)) : vz br p := by
  obtain ⟨a, b, pa, pb, na, nb, e⟩ := h
  refine vz.of_mul hp pp.lp (g := a) ?_ na
  exact ((hS.pow hp pS.lp j).mul hp pb.lp).congr (fun x => by have := e x; grind)
/-- one order more: W = R W', S = R S', S' not 0 there -/
theorem od_up (hp : pla br) {S W R W' S' : Rat → Rat} {j : Nat} (pS' : pl S') (hW : ∀ x, W x = R x * W' x) (hS : ∀ x, S x = R x * S' x) (nS' : nz br S') (h : od br S W' j) : od br S W (j + 1) := by
  obtain ⟨a, b, pa, pb, na, nb, e⟩ := h
  refine ⟨fun x => a x * S' x, b, pa.mul pS', pb, na.mul hp nS', nb, fun x => ?_⟩
  have h1 := e x
  rw [hW, Rat.pow_succ]
  have h2 := hS x
  generalize S x ^ j = Z at *
  grind
/-- a factor R of S that is 0 at the place: the other is not (S has a slope there) -/
theorem fac_nz (hp : pla br) {S S1 R S' : Rat → Rat} (pR : pl R) (pS' : pl S') (hS : ∀ x, S x = R x * S' x) (dS : df S S1) (nS1 : nz br S1) (vR : vz br R) : nz br S' := by
  rcases hp.dich pS'.lp with hv | hn
  · exfalso
    obtain ⟨R1, dR, pR1⟩ := pR.df
    obtain ⟨T1, dT, pT1⟩ := pS'.df
    refine nS1.not hp (((hv.mul hp pR1.lp).add hp (vR.mul hp pT1.lp)).congr (fun x => ?_))
    have := dS.uniq ((dR.mul dT pR.lp pS'.lp).congr hS (fun x => rfl)) x
    rw [this]; grind
  · exact hn
end
theorem slp0 {G1 K G K1 S H T : Rat} (e2 : G1 * S = G * H) : (G1 * K + G * K1) * S = G * (H * K + S * K1 + (-0) * T) := by grind
theorem slp1 {D Z S Gj i S1 G1 K G K1 H : Rat} (e1 : D * (Z * S) + Gj * ((i + 1) * (Z * S1)) = G1 * K + G * K1) (e2 : G1 * S = G * H) (e3 : Gj * (Z * S) = G * K) : D * (Z * S * S) = G * (H * K + S * K1 + (-(i + 1)) * (S1 * K)) := by
  have h1 : D * (Z * S) = G1 * K + G * K1 - Gj * ((i + 1) * (Z * S1)) := by grind
  have h2 : D * (Z * S * S) = (G1 * K + G * K1 - Gj * ((i + 1) * (Z * S1))) * S := by rw [← h1]; grind
  rw [h2]
  have h3 : (G1 * K + G * K1 - Gj * ((i + 1) * (Z * S1))) * S = (G1 * S) * K + G * K1 * S - (i + 1) * S1 * (Gj * (Z * S)) := by grind
  rw [h3, e2, e3]; grind
/-- G's slopes of every order, times powers of S, are multiples of G -/
theorem slopes {G G1 S H : Rat → Rat} (pG : pl G) (pS : pl S) (pH : pl H) (dG : df G G1) (e : ∀ x, G1 x * S x = G x * H x) : ∀ {n : Nat}, pb G (n + 1) → ∃ (c : Rat) (K : Rat → Rat), pl K ∧ ((∃ x, G x ≠ 0) → dg G n → c ≠ 0) ∧ ∀ x, c * S x ^ n = G x * K x := by
  -- the slope of order j
  have key : ∀ (j n : Nat) (a : Rat) , dg G (n + j) → ∃ (Gj : Rat → Rat) (K : Rat → Rat), pl K ∧ dg Gj n ∧ (∀ x, Gj x * S x ^ j = G x * K x) := by
    intro j
    induction j with
    | zero => intro n a h; exact ⟨G, fun _ => 1, pl.const 1, h, fun x => by grind⟩
    | succ j ih =>
      intro n a h
      obtain ⟨Gj, K, pK, dgj, ej⟩ := ih (n + 1) a (by rw [show n + 1 + j = n + (j + 1) by omega]; exact h)
      -- the slope of Gj
      obtain ⟨c0, f1, hc0, pf1, ef⟩ := dgj
      obtain ⟨f3, df3, lf1, lf3, pf3⟩ := pf1.sm
      have pGj : pl Gj := ⟨_, (((pb.pow (n + 1)).smul c0).add (pf1.mono (by omega))).congr ef⟩
      obtain ⟨S1, dS, pS1⟩ := pS.df
      obtain ⟨K1, dK, pK1⟩ := pK.df
      have dGj : df Gj (fun x => c0 * (((n + 1 : Nat) : Rat) * x ^ n) + f3 x) := (((df.pow (n + 1)).smul c0 (lp.pow (n + 1))).add df3).congr ef (fun x => by rw [Nat.add_sub_cancel])
      refine ⟨fun x => c0 * (((n + 1 : Nat) : Rat) * x ^ n) + f3 x, fun x => H x * K x + S x * K1 x + (-(j : Rat)) * (S1 x * K x), ((pH.mul pK).add (pS.mul pK1)).add ((pS1.mul pK).smul _), ?_, fun x => ?_⟩
      · refine ⟨c0 * ((n + 1 : Nat) : Rat), f3, fun h0 => ?_, by rw [Nat.add_sub_cancel] at pf3; exact pf3, fun x => by grind⟩
        rcases Rat.mul_eq_zero.1 h0 with h1 | h1
        · exact hc0 h1
        · have : ((n + 1 : Nat) : Rat) = n + 1 := by push_cast; rfl
          rw [this] at h1
          have : (0 : Rat) ≤ n := by exact_mod_cast Nat.zero_le n
          grind
      · -- differentiate Gj S^j = G K
        have hK := dG.mul dK pG.lp pK.lp
        rcases Nat.eq_zero_or_pos j with hj | hj
        · subst hj
          have e1 := (dGj.congr (g := fun x => G x * K x) (fun x => by have := ej x; grind) (fun x => rfl)).uniq hK x
          have e2 := e x
          show (c0 * (((n + 1 : Nat) : Rat) * x ^ n) + f3 x) * S x ^ (0 + 1) = G x * (H x * K x + S x * K1 x + (-((0 : Nat) : Rat)) * (S1 x * K x))
          rw [e1, show S x ^ (0 + 1) = S x by grind, show ((0 : Nat) : Rat) = 0 by rfl]
          exact slp0 e2
        · obtain ⟨i, rfl⟩ : ∃ i, j = i + 1 := ⟨j - 1, by omega⟩
          obtain ⟨d1, l1⟩ := df.powf dS pS.lp i
          have e1 := ((dGj.mul d1 pGj.lp l1).congr (g := fun x => G x * K x) (fun x => (ej x).symm) (fun x => rfl)).uniq hK x
          have e2 := e x
          have e3 := ej x
          have e4 : ((i + 1 : Nat) : Rat) = i + 1 := by push_cast; rfl
          show (c0 * (((n + 1 : Nat) : Rat) * x ^ n) + f3 x) * S x ^ (i + 1 + 1) = G x * (H x * K x + S x * K1 x + (-((i + 1 : Nat) : Rat)) * (S1 x * K x))
          rw [e4]
          rw [Rat.pow_succ] at e1 e3
          rw [Rat.pow_succ, Rat.pow_succ]
          exact slp1 e1 e2 e3
  intro n hn
  by_cases hd : dg G n
  · obtain ⟨Gj, K, pK, ⟨c, f1, hc, ⟨cc, hcc⟩, ef⟩, ej⟩ := key n 0 0 (by rw [Nat.zero_add]; exact hd)
    refine ⟨c, K, pK, fun _ _ => hc, fun x => ?_⟩
    have h1 := ej x
    have h2 := ef x
    rw [hcc] at h2
    simp only [er] at h2
    rw [h2] at h1
    grind
  · exact ⟨0, fun _ => 0, pl.const 0, fun _ h => absurd h hd, fun x => by grind⟩
