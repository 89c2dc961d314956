/-! EVERY CALL AT THE LAW: floor, put, out -/
section
variable {P : Nat → Int} {n M : Nat} {F : Nat → Nat → Int} {d : Nat → Nat}
theorem flT_bd (h : gch P n M F d) {i w T : Int} (hT : 0 < T) (hi : 0 ≤ i ∧ i < vlo F d M - vhi F d M) (hf : flT (lk F d 0) (cN F d M) i w T) : (w.natAbs : Int) ≤ 4294967296 * T := by
  obtain ⟨s, hs⟩ := h.rs
  obtain ⟨r1, r2, r3⟩ := h.rch (re := 32) (Or.inl rfl)
  rw [dy_nR] at r1
  rw [dy_R] at r2 r3
  have e1 : ((-4294967296 : Int) : Rat) / ((1 : Int) : Rat) = -((2 ^ 32 : Nat) : Rat) := by decide +kernel
  have e2 : ((4294967296 : Int) : Rat) / ((1 : Int) : Rat) = ((2 ^ 32 : Nat) : Rat) := by decide +kernel
  rw [← e1] at r1
  rw [← e2] at r2
  obtain ⟨f1, f2⟩ := hf
  have h1 : ¬ 4294967296 * T < w := fun hc => by
    have := hs.nmm (x := ((4294967296 : Int) : Rat) / ((1 : Int) : Rat)) (y := (w : Rat) / (T : Rat)) ((rlt_dd (by decide) hT).2 (by omega))
    omega
  have h2 : ¬ w + 1 ≤ -4294967296 * T := fun hc => by
    have := hs.rts.nn (x := ((w + 1 : Int) : Rat) / (T : Rat)) (y := ((-4294967296 : Int) : Rat) / ((1 : Int) : Rat)) ((rle_dd hT (by decide)).2 (by omega))
    omega
  omega
theorem flo_flT {q : Rat → Rat} {N : Rat → Int} {i w : Int} {m : Nat} : flo q N i w (m : Int) ↔ flT q N i w (2 ^ m) := by
  unfold flo flT
  rw [dy_div, dy_div]
theorem tln_bd {w : Int} {nd : Nat} (h : ndg w.natAbs nd) (hb : w.natAbs < 10 ^ 100) : tln w nd ≤ 128 := by
  have h1 : nd ≤ 101 := by
    rcases h.2.2 with h2 | h2
    · omega
    · refine Classical.byContradiction (fun hc => ?_)
      have : 10 ^ 100 ≤ 10 ^ (nd - 1) := Nat.pow_le_pow_right (by decide) (by omega)
      omega
  unfold tln
  split <;> omega
theorem tcd_b (w : Int) (nd k : Nat) : 0 ≤ tcd w nd k ∧ tcd w nd k < 128 := by
  have h : ∀ N k, 0 ≤ dgd N k ∧ dgd N k < 10 := fun N k => by unfold dgd; omega
  unfold tcd
  have h1 := h w.natAbs (nd - k)
  have h2 := h w.natAbs (nd - 1 - k)
  split
  · split <;> omega
  · omega
end
set_option maxHeartbeats 4000000 in
/-- an answer, where more than the usual is kept in mind -/
theorem ok_gen2 {l : Launch} {K : pw_K} {xa : Nat} {L : q_L} {σ : q_S} {f : pw_F} (hl : lay K L xa σ f) {yD yW yM : MethodName} {bD bW bM : ByteArray} {nD nW nM dD dM : Nat} {AD AW AM : List Value} {hh : List (Nat × Nat × Nat × Nat)} (hdD : dD ≤ 900) (hdM : dM ≤ 900)
    (hv : ∀ (r : Int32) (sz : Nat) (post : pw_F → Nat → Prop), pw_C l K yD bD nD (some .int) (rmk dD 0 0) f AD sz (fun v f2 z => v = some (.int r) ∧ post f2 z) → (∀ f2 z, post f2 z → ∃ go : Nat → Int64, f2 (xa + 627) = some (.inl (pE K 1, 1, .inr (.inl go)))) → pw_W l K yW bW nW (some .int) hh (rmk (dD + 1) 0 0) f AW sz (fun v f2 z => v = some (.int 0) ∧ ∃ (f1 : pw_F) (go : Nat → Int64), post f1 z ∧ go 0 = r.toInt64 ∧ f2 = pw_up f1 (xa + 627) (.inl (pE K 1, 1, .inr (.inl go)))))
    {SC SR : Int → Prop} {QC : q_S → Prop} {QR : q_S → q_S → Prop} (hC : q_C l K L yD bD nD (some .int) dD AD σ (fun r σ' => (∃ z : Int, r = some (vi z) ∧ SC z) ∧ QC σ')) (uC : ∀ z z', SC z → SC z' → z = z')
    (hR : ∀ σ2, QC σ2 → q_C l K L yM bM nM (some .int) dM AM σ2 (fun r σ3 => (∃ z : Int, r = some (vi z) ∧ SR z) ∧ QR σ2 σ3)) (uR : ∀ z z', SC z → SR z' → z' = z) (hJ : ∀ σ2 σ3, QC σ2 → QR σ2 σ3 → σ3 (xa + 617) 0 = 0 ∧ ∃ PP, ivt σ3 xa PP) :
    ∃ (kc : Int32) (Mid : pw_F → Prop), stW l K yW bW nW hh AW f kc Mid ∧ ∀ f2, Mid f2 → bas K xa (xa + 617) (xa + 627) f2 ∧ ∃ bb : Int32, stM l K yM bM nM (some .int) AM f2 (some (.int bb)) (aft K xa (xa + 617) (xa + 627) kc bb.toInt64 (inv K xa)) := by
  obtain ⟨z0, hC'⟩ : ∃ z0 : Int, q_C l K L yD bD nD (some .int) dD AD σ (fun r σ' => r = some (vi z0) ∧ SC z0 ∧ QC σ') := by
    by_cases hex : ∃ z, SC z
    · obtain ⟨z0, h0⟩ := hex
      refine ⟨z0, q_C.mono hC (fun r σ' hp => ?_)⟩
      obtain ⟨⟨z, h1, h2⟩, h3⟩ := hp
      rw [uC z z0 h2 h0] at h1
      exact ⟨h1, h0, h3⟩
    · refine ⟨0, q_C.mono hC (fun r σ' hp => ?_)⟩
      obtain ⟨⟨z, h1, h2⟩, h3⟩ := hp
      exact absurd ⟨z, h2⟩ hex
  obtain ⟨hD, hM, hLo, hat, go, ho⟩ := hl
  refine ⟨0, fun f2 => ∃ (σ2 : q_S) (go2 : Nat → Int64), q_at K L σ2 f2 ∧ f2 (xa + 627) = some (.inl (pE K 1, 1, .inr (.inl go2))) ∧ go2 0 = (Int32.ofInt z0).toInt64 ∧ SC z0 ∧ QC σ2, ⟨dD + 1, 0, 0, ⟨by omega, by omega, by omega⟩, fun sz => ⟨_, hv (Int32.ofInt z0) sz (fun f2 _ => ∃ σ' : q_S, q_at K L σ' f2 ∧ (∀ q, L q = none → f2 q = f q) ∧ SC z0 ∧ QC σ') (hC'.as hat sz (fun v σ' h => h)) (fun f2 z h => ?_), fun v f2 z h => ?_⟩⟩, fun f2 h2 => ?_⟩
  · obtain ⟨σ', -, h3, -⟩ := h
    exact ⟨go, (h3 _ hLo).trans ho⟩
  · obtain ⟨h1, f1, g1, ⟨σ', h2, h3, h4, h6⟩, h5, rfl⟩ := h
    exact ⟨h1, σ', g1, h2.out hLo, pw_up_self _ _ _, h5, h4, h6⟩
  · obtain ⟨σ2, go2, h3, h4, h5, h6, h7⟩ := h2
    refine ⟨lay.bas (σ := σ2) ⟨hD, hM, hLo, h3, go2, h4⟩, Int32.ofInt z0, dM, 0, 0, ⟨by omega, by omega, by omega⟩, fun sz => ⟨_, (hR σ2 h7).as h3 sz (r := some (vi z0)) (F := fun σ3 => QR σ2 σ3) (fun v σ' h => ?_), fun v f3 z h => ?_⟩⟩
    · obtain ⟨⟨z, e1, e2⟩, e3⟩ := h
      rw [uR z0 z h6 e2] at e1
      exact ⟨e1, e3⟩
    · obtain ⟨e1, σ3, e2, e3, e4⟩ := h
      obtain ⟨i2, PP, i1⟩ := hJ σ2 σ3 h7 e4
      have ho3 := (e3 _ hLo).trans h4
      have hmo := e2.mo hM
      rw [i2] at hmo
      exact ⟨e1, ⟨_, e2 _ _ hD.1⟩, ⟨_, _, _, _, _, _, _, _, _, _, hmo⟩, ⟨go2, ho3, fun _ => h5⟩, L, σ3, PP, ⟨hD, hM, hLo, e2, go2, ho3⟩, i1⟩
section
variable {l : Launch} {K : pw_K} {xa : Nat} {L : q_L} {σ : q_S} {f : pw_F} {PP : Nat → Nat → Int}
/-- what floor leaves on the class's side -/
def flC (σ σ' : q_S) (xa : Nat) (PP : Nat → Nat → Int) (FL : Int → Prop) : Prop := (∀ j, j < 2 → hin σ' (xa + 2 + 177 * j) (PP j)) ∧ (∀ q, xa + 617 ≤ q → σ' q = σ q) ∧ ∃ (w : Int) (nd : Nat), FL w ∧ ndg w.natAbs nd ∧ σ' (xa + 612) 3 = (tln w nd : Int) ∧ ∀ k, k < tln w nd → σ' (xa + 612 + 1) k = tcd w nd k
def flR (σ2 σ3 : q_S) (xa : Nat) (FL : Int → Prop) : Prop := σ3 (xa + 617) 0 = 0 ∧ flF σ2 σ3 (xa + 617) ∧ ∃ (w : Int) (nd : Nat), FL w ∧ ndg w.natAbs nd ∧ σ3 (xa + 617) 9 = (tln w nd : Int) ∧ ∀ k, k < tln w nd → σ3 (xa + 617 + 8) k = tcd w nd k
theorem flC.ref {σ' : q_S} {FL : Int → Prop} (h : flC σ σ' xa PP FL) (hi : ivt σ xa PP) {j n : Nat} (hj : j < 2) (hn : top (PP j) 9 = n + 1) : σ' (xa + 617 + 4) j = (n : Int) ∧ ∀ k, k ≤ n → rV σ' (xa + 617) (9 * j + k) (PP j k) := by
  obtain ⟨r1, r2, -⟩ := hi.ref hj hn
  exact ⟨by rw [h.2.1 _ (by omega)]; exact r1, fun k hk => (r2 k hk).mv (rE_of (h.2.1 _ (by omega)) (h.2.1 _ (by omega)) (h.2.1 _ (by omega)) _)⟩
theorem fl_end {σ2 σ3 : q_S} {FL : Int → Prop} (hi : ivt σ xa PP) (uF : ∀ w w', FL w → FL w' → w = w') (bF : ∀ w, FL w → w.natAbs < 10 ^ 100) (h : flC σ σ2 xa PP FL) (g : flR σ2 σ3 xa FL) : σ3 (xa + 617) 0 = 0 ∧ ∃ PP, ivt σ3 xa PP := by
  obtain ⟨h1, h2, w, nd, h3, h4, h5, h6⟩ := h
  obtain ⟨g1, g2, w', nd', g3, g4, g5, g6⟩ := g
  obtain rfl := uF w w' h3 g3
  obtain rfl := ndg_u h4 g4
  have e : ∀ q, q < xa + 617 → σ3 q = σ2 q := fun q hq => g2.1 q (by omega)
  refine ⟨g1, PP, fun j hj => ⟨(h1 j hj).mv (fun q _ a2 => e q (by omega)), by rw [g2.2.2 j hj, h2 _ (by omega)]; exact (hi.1 j hj).2.1, fun k hk => (((hi.1 j hj).2.2 k hk).mv (rE_of (h2 _ (by omega)) (h2 _ (by omega)) (h2 _ (by omega)) _)).mv (g2.2.1 _ (by have := top_le9 (PP j) 9; omega))⟩, tln w nd, tln_bd h4 (bF w h3), by rw [e _ (by omega)]; exact h5, g5, fun k hk => ?_⟩
  have e1 : σ3 (xa + 613) k = tcd w nd k := by rw [e _ (by omega)]; exact h6 k hk
  rw [e1, g6 k hk]
  exact ⟨rfl, tcd_b w nd k⟩
end
