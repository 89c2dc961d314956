/-! QUERY: countShared -/
theorem unit_dg {h r : Rat → Rat} (ph : pl h) (pr : pl r) (e : ∀ x, h x * r x = 1) : dg h 0 := by
  obtain ⟨n, hn⟩ := ph
  obtain ⟨m, hm⟩ := pr
  rcases hn.dich with h1 | ⟨a, -, h1⟩
  · have := e 0; rw [h1 0] at this; grind
  · rcases hm.dich with h2 | ⟨b, -, h2⟩
    · have := e 0; rw [h2 0] at this; grind
    · have h3 := (h1.mul h2).congr (g := fun _ => 1) (fun x => (e x).symm)
      have h4 : dg (fun _ => (1 : Rat)) 0 := ⟨1, fun _ => 0, by grind, pb.zero 0, fun x => by rw [Rat.pow_zero]; grind⟩
      have := h3.eq h4
      have : a = 0 := by omega
      rw [this] at h1
      exact h1
/-- the chain of a factor of a squarefree polynomial ends with a number -/
theorem cm_end {q q1 u w k : Rat → Rat} (pu : pl u) (pw : pl w) (pk : pl k) (dq : df q q1) (bq : ∀ x, u x * q x + w x * q1 x = 1) {F : Nat → Nat → Int} {d : Nat → Nat} {f g M : Nat} (h : chs F d f g M) (hM : 1 ≤ M) (hF1 : ∀ c, F 1 c = dP (F 0) c) (hd1 : d 0 = d 1 + 1) (e : ∀ x, q x = lk F d 0 x * k x) : d M = 0 := by
  obtain ⟨a, c, gg, kk, hk, pkk, ek, -⟩ := chs_k h hM
  obtain ⟨sc, ht, hc, -⟩ := h
  obtain ⟨k1, hk1, pk1⟩ := pk.df
  have hdf : df (lk F d 0) (lk F d 1) := (ev_df (F 0) (d 0 + 1)).congr (fun x => rfl) (fun x => by
    show ev (F 1) (d 1 + 1) x = ev (dP (F 0)) (d 0 + 1 - 1) x
    rw [ev_congr (fun c _ => hF1 c) x, Nat.add_sub_cancel, hd1])
  have h1 := (hdf.mul hk1 (ev_lp _ _) pk.lp).congr (g := q) (g1 := fun x => lk F d 1 x * k x + lk F d 0 x * k1 x) e (fun x => rfl)
  have h2 : dg (lk F d M) 0 := unit_dg (r := fun x => u x * (kk 0 x * k x) + w x * (kk 1 x * k x + kk 0 x * k1 x)) (pl.ev _ _) ((pu.mul ((pkk 0 (by omega)).mul pk)).add (pw.mul (((pkk 1 hM).mul pk).add ((pkk 0 (by omega)).mul pk1)))) (fun x => by
    have h3 := bq x
    rw [dq.uniq h1 x, e x, ek 0 (by omega) x, ek 1 hM x] at h3
    rw [← h3]
    grind)
  exact (dg_ev (hc.1 M (Nat.le_refl _)).2).eq h2
theorem okc_cb : ((List.range 9).all fun m => (List.range 9).all fun n => !(Nat.ble n m) || okcB (fbm m) (fbm n) m n) = true := by decide +kernel
theorem okc_c (m : Nat) (h1 : m < 9) (n : Nat) (h4 : n ≤ m) : okc (fbm m) (fbm n) m n := by
  have a1 := List.all_eq_true.1 okc_cb m (List.mem_range.2 h1)
  have a3 := List.all_eq_true.1 a1 n (List.mem_range.2 (by omega))
  rw [Bool.or_eq_true] at a3
  rcases a3 with a3 | a3
  · rw [Nat.ble_eq_true_of_le h4] at a3
    exact absurd a3 (by decide)
  · exact okcB_ok a3
theorem gch.l0 {P : Nat → Int} {n M : Nat} {F : Nat → Nat → Int} {d : Nat → Nat} (h : gch P n M F d) : l1 (F 0) (d 0 + 1) ≤ 2 ^ fbm (d 0) := by
  rcases Nat.eq_zero_or_pos (d 0) with h0 | h0
  · have := h.bits.1 0
    rw [h0] at this ⊢
    show 0 + (F 0 0).natAbs ≤ _
    omega
  · exact (h.l1s h0).2.1
/-- the common factor: what it divides, and what it is made of -/
def cmf (qa qb D : Rat → Rat) : Prop := ∃ ra rb ua ub : Rat → Rat, pl ra ∧ pl rb ∧ pl ua ∧ pl ub ∧ (∀ x, qa x = D x * ra x) ∧ (∀ x, qb x = D x * rb x) ∧ ∀ x, D x = ua x * qa x + ub x * qb x
theorem cmf.vz {qa qb D : Rat → Rat} (h : cmf qa qb D) (pD : pl D) (pb : pl qb) {br : Rat → Rat → Prop} (hp : pla br) (ha : vz br qa) : vz br D ↔ vz br qb := by
  obtain ⟨ra, rb, ua, ub, p1, p2, p3, p4, e1, e2, e3⟩ := h
  constructor
  · intro h1
    exact (h1.mul hp p2.lp).congr e2
  · intro h1
    refine ((ha.mul hp p3.lp).add hp (h1.mul hp p4.lp)).congr (fun x => ?_)
    rw [e3 x]
    grind
theorem chs_cmf {F : Nat → Nat → Int} {d : Nat → Nat} {f g M : Nat} (h : chs F d f g M) (hM : 1 ≤ M) : cmf (lk F d 0) (lk F d 1) (lk F d M) := by
  obtain ⟨a, c, gg, k, hk, pk, ek, u, w, pu, pw, e⟩ := chs_k h hM
  refine ⟨k 0, k 1, u, w, pk 0 (by omega), pk 1 hM, pu, pw, ek 0 (by omega), ek 1 hM, fun x => ?_⟩
  rw [ek 0 (by omega) x, ek 1 hM x]
  have := e x
  have h2 : lk F d M x * (u x * k 0 x + w x * k 1 x) = lk F d M x * 1 := by rw [this]
  grind
theorem cmf.swap {qa qb D : Rat → Rat} (h : cmf qa qb D) : cmf qb qa D := by
  obtain ⟨ra, rb, ua, ub, p1, p2, p3, p4, e1, e2, e3⟩ := h
  exact ⟨rb, ra, ub, ua, p2, p1, p4, p3, e2, e1, fun x => by rw [e3 x]; grind⟩
theorem cmf.scale {qa qb D D' : Rat → Rat} (h : cmf qa qb D) {c : Rat} (hc : c ≠ 0) (e : ∀ x, D x = c * D' x) : cmf qa qb D' := by
  obtain ⟨ra, rb, ua, ub, p1, p2, p3, p4, e1, e2, e3⟩ := h
  refine ⟨fun x => c * ra x, fun x => c * rb x, fun x => 1 / c * ua x, fun x => 1 / c * ub x, p1.smul c, p2.smul c, p3.smul _, p4.smul _, fun x => ?_, fun x => ?_, fun x => ?_⟩
  · rw [e1 x, e x]; grind
  · rw [e2 x, e x]; grind
  · have h1 := e3 x
    rw [e x] at h1
    have : D' x = 1 / c * (c * D' x) := by grind
    rw [this, h1]
    grind
section
variable {P : Nat → Int} {n M re : Nat} {F : Nat → Nat → Int} {d : Nat → Nat}
theorem gch.vzq (h : gch P n M F d) (hre : re = 32 ∨ rok (F 0) (d 0) re) (hre2 : re ≤ 32) {i : Int} (hi : 0 ≤ i ∧ i < vlo F d M - vhi F d M) : vz (rb (lk F d 0) (cN F d M) B0 i) (lk F d 0) := by
  obtain ⟨s, hs⟩ := h.rs
  exact (hs.2.1 B0).vzq hs.1 (h.brk hre hre2 hi)
theorem gch.ends (h : gch P n M F d) (hre : re = 32 ∨ rok (F 0) (d 0) re) (hre2 : re ≤ 32) : cN F d M (-8589934592) = 0 ∧ cN F d M 8589934592 = vlo F d M - vhi F d M := by
  obtain ⟨s, hs⟩ := h.rs
  obtain ⟨r1, r2, r3⟩ := h.rch hre
  rw [dy_nR] at r1
  rw [dy_R] at r2 r3
  have hR : ((2 ^ re : Nat) : Rat) ≤ 4294967296 := nc_le (b := 4294967296) (show 2 ^ re ≤ 2 ^ 32 from Nat.pow_le_pow_right (by omega) hre2)
  have k1 := hs.nmm (x := -8589934592) (y := -((2 ^ re : Nat) : Rat)) (by grind)
  have k2 := hs.mono (x := ((2 ^ re : Nat) : Rat)) (y := 8589934592) (by grind)
  have k3 := hs.rts.2.2 (-8589934592)
  have k4 := (nm_N (lk F d 0) (cN F d M) (-8589934592)).1
  have k5 := (hs.rts.2.2 8589934592).2
  omega
/-- a number as common factor: no common root -/
theorem cm_0 (h : gch P n M F d) (hre : re = 32 ∨ rok (F 0) (d 0) re) (hre2 : re ≤ 32) {qb D : Rat → Rat} (pb : pl qb) (hc : cmf (lk F d 0) qb D) {z : Int} (hz : z ≠ 0) (hD : ∀ x, D x = z) : nvz (lk F d 0) (cN F d M) qb (vlo F d M - vhi F d M).toNat = 0 := by
  have hcn := h.cnt
  refine nvz_0 (fun i hi hv => ?_)
  have hi2 : (0 : Int) ≤ (i : Int) ∧ (i : Int) < vlo F d M - vhi F d M := by omega
  have hp := h.pla hre hre2 hi2
  have h1 := (hc.vz ((pl.const (z : Rat)).congr hD) pb hp (h.vzq hre hre2 hi2)).2 hv
  have hne : (z : Rat) ≠ 0 := fun h9 => hz (Rat.intCast_eq_zero_iff.1 h9)
  exact (nz.const hp hne).not hp (h1.congr (fun x => (hD x).symm))
/-- .. a polynomial: its roots are counted -/
theorem cm_1 (h : gch P n M F d) (hd : 1 ≤ d 0) (hre : re = 32 ∨ rok (F 0) (d 0) re) (hre2 : re ≤ 32) {qb : Rat → Rat} (pb : pl qb) {F' : Nat → Nat → Int} {d' : Nat → Nat} {f g M' : Nat} (hc : cmf (lk F d 0) qb (lk F' d' 0)) (h' : chs F' d' f g M') (hM' : 1 ≤ M') (hF1 : ∀ c, F' 1 c = dP (F' 0) c) (hd1 : d' 0 = d' 1 + 1) : vlo F' d' M' - vhi F' d' M' = nvz (lk F d 0) (cN F d M) qb (vlo F d M - vhi F d M).toNat := by
  obtain ⟨hdf, u, w, pu, pw, bq⟩ := h.bzq hd
  obtain ⟨s, hs⟩ := h.rs
  have hc2 := hc
  obtain ⟨ra, rb', ua, ub, p1, p2, p3, p4, e1, e2, e3⟩ := hc2
  have hdM := cm_end pu pw p1 hdf bq h' hM' hF1 hd1 e1
  obtain ⟨⟨s', hs'⟩, -⟩ := chs_rsx h' hM' hdM hF1 hd1
  obtain ⟨U, W, pU, pW, bz⟩ := fac_bz (pl.ev _ _) p1 pu pw hdf e1 bq
  obtain ⟨n0, n1⟩ := h.ends hre hre2
  have hcn := h.cnt
  rw [cnt_D hs hs' p1.lp pU.lp pW.lp e1 bz (lo := -8589934592) (hi := 8589934592) (by unfold ab; grind) (by unfold ab; grind) (by grind) n0 n1]
  refine nvz_congr (fun i hi => ?_)
  have hi2 : (0 : Int) ≤ (i : Int) ∧ (i : Int) < vlo F d M - vhi F d M := by omega
  exact hc.vz (pl.ev _ _) pb (h.pla hre hre2 hi2) (h.vzq hre hre2 hi2)
/-- a primitive factor of q is not large -/
theorem gch.fac (h : gch P n M F d) {D : Nat → Int} {k : Nat} (hDz : ∀ c, k < c → D c = 0) (hDk : D k ≠ 0) (hgn : gn D (k + 1) = 1) {r : Rat → Rat} (pr : pl r) (e : ∀ x, lk F d 0 x = ev D (k + 1) x * r x) : l1 D (k + 1) ≤ 2 ^ fbm k ∧ k ≤ n := by
  have h0 := h
  obtain ⟨g1, g2, g3, g4, g5⟩ := h0
  have main : ∀ E : Rat → Rat, pl E → (∀ x, ev P (n + 1) x = E x * lk F d 0 x) → l1 D (k + 1) ≤ 2 ^ fbm k ∧ k ≤ n := by
    intro E pE eE
    obtain ⟨a1, Q, b1, b2, b3, b4⟩ := int_fac g1 g2 hDz hDk hgn (pE.mul pr) (fun x => by rw [eE x, e x]; grind)
    exact ⟨fac_l1 a1 hDz b2 (fun x => by rw [b4 x, eE x, e x]; grind) g3 g4 g1, a1⟩
  rcases g5 with ⟨a1, a2, a3, a4⟩ | ⟨a1, a2, -, a4, a5, a6, a7⟩
  · refine main (fun _ => 1) (pl.const 1) (fun x => ?_)
    show ev P (n + 1) x = 1 * ev (F 0) (d 0 + 1) x
    rw [a4, a3, a1]
    grind
  · obtain ⟨-, -, -, Dd, -, -, he, -⟩ := a7
    exact main _ (pl.ev Dd (n - d 0 + 1)) he
end
