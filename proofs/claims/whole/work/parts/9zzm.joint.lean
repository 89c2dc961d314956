/-! BOTH SIDES AT ONCE: one answer; a call at the law, out of two contracts over the store -/
theorem gch_all {P : Nat → Int} {n : Nat} (hz : ∀ c, n < c → P c = 0) (hPn : P n ≠ 0) (hn : n ≤ 8) (hb : ∀ k, (P k).natAbs ≤ 2147483648) : ∃ (M : Nat) (F : Nat → Nat → Int) (d : Nat → Nat), gch P n M F d := by
  rcases Nat.eq_zero_or_pos n with h0 | h0
  · exact ⟨0, fun _ => P, fun _ => 0, hz, hPn, hn, hb, Or.inl ⟨h0, rfl, rfl, rfl⟩⟩
  · obtain ⟨n1, rfl⟩ : ∃ n1, n = n1 + 1 := ⟨n - 1, by omega⟩
    have hl35 := l1_35 hn hb
    have hl38 := l1_dP8 hn hl35
    have hdz : ∀ c, n1 < c → dP P c = 0 := fun c hc => by unfold dP; rw [hz _ (by omega), Int.mul_zero]
    have hdn : dP P n1 ≠ 0 := by unfold dP; exact Int.mul_ne_zero (by omega) hPn
    obtain ⟨M, F, d, hM, e0, e1, d0, d1, hch⟩ := chs_ex (f := 52) (g := 52) hz hdz hPn hdn (by omega) (Nat.le_trans hl35 (Nat.pow_le_pow_right (by omega) (by omega))) (Nat.le_trans hl38 (Nat.pow_le_pow_right (by omega) (by omega)))
    have hdM : d M ≤ n1 := by
      obtain ⟨sc, ht, hc, -⟩ := hch
      have := cin_deg hc M hM (Nat.le_refl _)
      omega
    have hFM : (∀ c, d M < c → F M c = 0) ∧ F M (d M) ≠ 0 := by
      obtain ⟨sc, ht, hc, -⟩ := hch
      exact hc.1 M (Nat.le_refl _)
    have hpq := (prm_pq (R := F M) (G := F M) (r := d M + 1) (e := d M) ⟨1, 1, by decide, by decide, fun _ => rfl⟩ hFM.1 hFM.2 (fun c hc => hFM.1 c (by omega)) (fun _ => by rw [Nat.add_sub_cancel]; exact hFM.2)).2
    obtain ⟨-, S, hS, hfc⟩ := gcd_ok hch hM (fun c => by rw [e0, e1]) (by omega) hpq
    rw [e0, d0] at hfc
    obtain ⟨M', F', d', h1, -⟩ := gch_ex hz hPn hn hb hfc (by omega)
    exact ⟨M', F', d', h1⟩
section
variable {P : Nat → Int} {n M M' : Nat} {F F' : Nat → Nat → Int} {d d' : Nat → Nat}
theorem gch.cNu (h : gch P n M F d) (h' : gch P n M' F' d') : cN F' d' M' = cN F d M := funext (fun x => (h.uniq h').1 x)
theorem gch.zu (h : gch P n M F d) (h' : gch P n M' F' d') (x : Rat) : lk F' d' 0 x = 0 ↔ lk F d 0 x = 0 := by
  obtain ⟨b, hb, e⟩ := (h.uniq h').2.2.2
  rw [e x]
  constructor
  · intro h0
    rcases Rat.mul_eq_zero.1 h0 with h1 | h1
    · exact absurd h1 hb
    · exact h1
  · intro h0
    rw [h0, Rat.mul_zero]
theorem gch.nmu (h : gch P n M F d) (h' : gch P n M' F' d') : nm (lk F' d' 0) (cN F' d' M') = nm (lk F d 0) (cN F d M) := by
  funext x
  unfold nm
  rw [h.cNu h']
  by_cases h1 : lk F d 0 x = 0
  · rw [if_pos h1, if_pos ((h.zu h' x).2 h1)]
  · rw [if_neg h1, if_neg (fun h2 => h1 ((h.zu h' x).1 h2))]
theorem gch.rbu (h : gch P n M F d) (h' : gch P n M' F' d') (i : Int) : rb (lk F' d' 0) (cN F' d' M') B0 i = rb (lk F d 0) (cN F d M) B0 i := by
  funext x y
  unfold rb
  rw [h.cNu h']
  refine propext ⟨fun h1 => ?_, fun h1 => ?_⟩
  · exact ⟨h1.1, h1.2.1, h1.2.2.1, h1.2.2.2.1, h1.2.2.2.2.1, fun h0 => h1.2.2.2.2.2 ((h.zu h' y).2 h0)⟩
  · exact ⟨h1.1, h1.2.1, h1.2.2.1, h1.2.2.2.1, h1.2.2.2.2.1, fun h0 => h1.2.2.2.2.2 ((h.zu h' y).1 h0)⟩
theorem gch.sdou (h : gch P n M F d) (h' : gch P n M' F' d') (i : Int) (x : Rat) : sdo (lk F' d' 0) (cN F' d' M') i x = sdo (lk F d 0) (cN F d M) i x := by
  unfold sdo
  rw [h.nmu h', h.cNu h']
theorem gch.sgau (h : gch P n M F d) (h' : gch P n M' F' d') {i : Int} {g : Rat → Rat} {s : Int} (hs : sga (lk F' d' 0) (cN F' d' M') i g s) : sga (lk F d 0) (cN F d M) i g s := by
  unfold sga at hs ⊢
  rw [h.rbu h'] at hs
  exact hs
theorem gch.mspu (h : gch P n M F d) (h' : gch P n M' F' d') {i k : Nat} (hs : mspec P n F' d' M' i k) : mspec P n F d M i k := by
  unfold mspec at hs ⊢
  rw [h.rbu h', (h.uniq h').2.2.1] at hs
  exact hs
theorem gch.apsu (h : gch P n M F d) (h' : gch P n M' F' d') {r : Int} (hs : aps (lk F' d' 0) (cN F' d' M') (vlo F' d' M' - vhi F' d' M') r) : aps (lk F d 0) (cN F d M) (vlo F d M - vhi F d M) r := by
  unfold aps flo at hs ⊢
  rw [h.nmu h', (h.uniq h').2.1] at hs
  exact hs
theorem gch.flou (h : gch P n M F d) (h' : gch P n M' F' d') {i z lev : Int} (hs : flo (lk F' d' 0) (cN F' d' M') i z lev) : flo (lk F d 0) (cN F d M) i z lev := by
  unfold flo at hs ⊢
  rw [h.nmu h'] at hs
  exact hs
theorem gch.flTu (h : gch P n M F d) (h' : gch P n M' F' d') {i z T : Int} (hs : flT (lk F' d' 0) (cN F' d' M') i z T) : flT (lk F d 0) (cN F d M) i z T := by
  unfold flT at hs ⊢
  rw [h.nmu h'] at hs
  exact hs
theorem gch.nvzu (h : gch P n M F d) (h' : gch P n M' F' d') (g : Rat → Rat) : ∀ k : Nat, nvz (lk F' d' 0) (cN F' d' M') g k = nvz (lk F d 0) (cN F d M) g k
  | 0 => rfl
  | k + 1 => by
    have ih := gch.nvzu h h' g k
    by_cases hv : vz (rb (lk F d 0) (cN F d M) B0 (k : Int)) g
    · rw [nvz_y hv, nvz_y (by rw [h.rbu h']; exact hv), ih]
    · rw [nvz_n hv, nvz_n (by rw [h.rbu h']; exact hv), ih]
end
/-- what the class's half of a call keeps -/
def qcl (σ σ' : q_S) (xa : Nat) (PP : Nat → Nat → Int) : Prop := (∀ j, j < 2 → hin σ' (xa + 2 + 177 * j) (PP j)) ∧ ∀ q, xa + 612 ≤ q → σ' q = σ q
theorem rE_of {σ σ' : q_S} {m : Nat} (h1 : σ' (m + 1) = σ (m + 1)) (h2 : σ' (m + 2) = σ (m + 2)) (h3 : σ' (m + 3) = σ (m + 3)) (r : Nat) : rE σ σ' m r := ⟨fun k _ => by unfold mr; rw [h1], by rw [h2], by rw [h3]⟩
theorem qcl.iv {σ σ' : q_S} {xa : Nat} {PP : Nat → Nat → Int} (h : qcl σ σ' xa PP) (hi : ivt σ xa PP) : ivt σ' xa PP := by
  obtain ⟨h1, nd, h2, h3, h4, h5⟩ := hi
  have e := h.2
  refine ⟨fun j hj => ⟨h.1 j hj, by rw [e _ (by omega)]; exact (h1 j hj).2.1, fun k hk => ((h1 j hj).2.2 k hk).mv (rE_of (e _ (by omega)) (e _ (by omega)) (e _ (by omega)) _)⟩, nd, h2, by rw [e _ (by omega)]; exact h3, by rw [e _ (by omega)]; exact h4, fun k hk => ?_⟩
  rw [e _ (by omega), e _ (by omega)]
  exact h5 k hk
theorem qcl.rfl' {σ : q_S} {xa : Nat} {PP : Nat → Nat → Int} (hi : ivt σ xa PP) : qcl σ σ xa PP := ⟨fun j hj => (hi.1 j hj).1, fun _ _ => rfl⟩
theorem upz {σ : q_S} {m : Nat} {z : Int} (r : Nat) : rE σ (q_up σ m 0 z) m r := ⟨fun v hv => mr_o _ _ (by omega), by rw [q_up_a _ _ (by omega)], by rw [q_up_a _ _ (by omega)]⟩
theorem ivt.mk {σ σ3 : q_S} {xa : Nat} {PP : Nat → Nat → Int} {z : Int} (hi : ivt σ xa PP) (h : mkp (q_up σ (xa + 617) 0 z) σ3 (xa + 617)) : ivt σ3 xa PP ∧ σ3 (xa + 617) 0 = z := by
  obtain ⟨h1, nd, h2, h3, h4, h5⟩ := hi
  obtain ⟨m1, m2, m3⟩ := h
  have e : ∀ q, q < xa + 617 → σ3 q = σ q := fun q hq => by rw [m1 q (by omega) (by omega) (by omega) (by omega) (by omega) (by omega) (by omega) (by omega), q_up_a _ _ (by omega)]
  have em := m1 (xa + 617) (by omega) (by omega) (by omega) (by omega) (by omega) (by omega) (by omega) (by omega)
  have e8 : σ3 (xa + 617 + 8) = σ (xa + 617 + 8) := by rw [m1 _ (by omega) (by omega) (by omega) (by omega) (by omega) (by omega) (by omega) (by omega), q_up_a _ _ (by omega)]
  refine ⟨⟨fun j hj => ⟨(h1 j hj).1.mv (fun q _ a2 => e q (by omega)), by rw [m3 j hj, q_up_a _ _ (by omega)]; exact (h1 j hj).2.1, fun k hk => (((h1 j hj).2.2 k hk).mv (upz _)).mv (m2 _ (by have := top_le9 (PP j) 9; omega))⟩, nd, h2, by rw [e _ (by omega)]; exact h3, by rw [em, q_up_k _ _ (by omega)]; exact h4, fun k hk => ?_⟩, by rw [em, q_up_self]⟩
  rw [e _ (by omega), e8]
  exact h5 k hk
/-- the reference's side of a polynomial that is there -/
theorem ivt.ref {σ : q_S} {xa : Nat} {PP : Nat → Nat → Int} (h : ivt σ xa PP) {j n : Nat} (hj : j < 2) (hn : top (PP j) 9 = n + 1) : σ (xa + 617 + 4) j = (n : Int) ∧ (∀ k, k ≤ n → rV σ (xa + 617) (9 * j + k) (PP j k)) ∧ (∀ c, n < c → PP j c = 0) ∧ PP j n ≠ 0 ∧ n ≤ 8 ∧ ∀ k, (PP j k).natAbs ≤ 2147483648 := by
  obtain ⟨h1, h2, h3⟩ := h.1 j hj
  obtain ⟨p1, p2, p3, p4, -⟩ := h1.1.pn hn
  exact ⟨by rw [h2, hn]; omega, fun k hk => h3 k (by omega), p3, p2, p1, p4⟩
set_option maxHeartbeats 4000000 in
/-- an answer -/
theorem ok_gen {l : Launch} {K : pw_K} {xa : Nat} {L : q_L} {σ : q_S} {f : pw_F} {PP : Nat → Nat → Int} (hl : lay K L xa σ f) (hi : ivt σ xa PP) {yD yW yM : MethodName} {bD bW bM : ByteArray} {nD nW nM dD dM : Nat} {AD AW AM : List Value} {hh : List (Nat × Nat × Nat × Nat)} (hdD : dD ≤ 900) (hdM : dM ≤ 900)
    (hv : ∀ (r : Int32) (sz : Nat) (post : pw_F → Nat → Prop), pw_C l K yD bD nD (some .int) (rmk dD 0 0) f AD sz (fun v f2 z => v = some (.int r) ∧ post f2 z) → (∀ f2 z, post f2 z → ∃ go : Nat → Int64, f2 (xa + 627) = some (.inl (pE K 1, 1, .inr (.inl go)))) → pw_W l K yW bW nW (some .int) hh (rmk (dD + 1) 0 0) f AW sz (fun v f2 z => v = some (.int 0) ∧ ∃ (f1 : pw_F) (go : Nat → Int64), post f1 z ∧ go 0 = r.toInt64 ∧ f2 = pw_up f1 (xa + 627) (.inl (pE K 1, 1, .inr (.inl go)))))
    {SC SR : Int → Prop} (hC : q_C l K L yD bD nD (some .int) dD AD σ (fun r σ' => (∃ z : Int, r = some (vi z) ∧ SC z) ∧ qcl σ σ' xa PP)) (uC : ∀ z z', SC z → SC z' → z = z')
    (hR : ∀ σ2, ivt σ2 xa PP → q_C l K L yM bM nM (some .int) dM AM σ2 (fun r σ3 => (∃ z : Int, r = some (vi z) ∧ SR z) ∧ mkp (q_up σ2 (xa + 617) 0 0) σ3 (xa + 617))) (uR : ∀ z z', SC z → SR z' → z' = z) :
    ∃ (kc : Int32) (Mid : pw_F → Prop), stW l K yW bW nW hh AW f kc Mid ∧ ∀ f2, Mid f2 → bas K xa (xa + 617) (xa + 627) f2 ∧ ∃ bb : Int32, stM l K yM bM nM (some .int) AM f2 (some (.int bb)) (aft K xa (xa + 617) (xa + 627) kc bb.toInt64 (inv K xa)) := by
  obtain ⟨z0, hC'⟩ : ∃ z0 : Int, q_C l K L yD bD nD (some .int) dD AD σ (fun r σ' => r = some (vi z0) ∧ SC z0 ∧ qcl σ σ' xa PP) := by
    by_cases hex : ∃ z, SC z
    · obtain ⟨z0, h0⟩ := hex
      refine ⟨z0, q_C.mono hC (fun r σ' hp => ?_)⟩
      obtain ⟨⟨z, h1, h2⟩, h3⟩ := hp
      rw [uC z z0 h2 h0] at h1
      exact ⟨h1, h0, h3⟩
    · refine ⟨0, q_C.mono hC (fun r σ' hp => ?_)⟩
      obtain ⟨⟨z, h1, h2⟩, h3⟩ := hp
      exact absurd ⟨z, h2⟩ hex
  obtain ⟨hD, hM, hLo, hat, go, ho⟩ := hl
  refine ⟨0, fun f2 => ∃ (σ2 : q_S) (go2 : Nat → Int64), q_at K L σ2 f2 ∧ f2 (xa + 627) = some (.inl (pE K 1, 1, .inr (.inl go2))) ∧ go2 0 = (Int32.ofInt z0).toInt64 ∧ SC z0 ∧ qcl σ σ2 xa PP, ⟨dD + 1, 0, 0, ⟨by omega, by omega, by omega⟩, fun sz => ⟨_, hv (Int32.ofInt z0) sz (fun f2 _ => ∃ σ' : q_S, q_at K L σ' f2 ∧ (∀ q, L q = none → f2 q = f q) ∧ SC z0 ∧ qcl σ σ' xa PP) (hC'.as hat sz (fun v σ' h => h)) (fun f2 z h => ?_), fun v f2 z h => ?_⟩⟩, fun f2 h2 => ?_⟩
  · obtain ⟨σ', -, h3, -⟩ := h
    exact ⟨go, (h3 _ hLo).trans ho⟩
  · obtain ⟨h1, f1, g1, ⟨σ', h2, h3, h4, h6⟩, h5, rfl⟩ := h
    exact ⟨h1, σ', g1, h2.out hLo, pw_up_self _ _ _, h5, h4, h6⟩
  · obtain ⟨σ2, go2, h3, h4, h5, h6, h7⟩ := h2
    have hi2 := h7.iv hi
    refine ⟨lay.bas (σ := σ2) ⟨hD, hM, hLo, h3, go2, h4⟩, Int32.ofInt z0, dM, 0, 0, ⟨by omega, by omega, by omega⟩, fun sz => ⟨_, (hR σ2 hi2).as h3 sz (r := some (vi z0)) (F := fun σ3 => mkp (q_up σ2 (xa + 617) 0 0) σ3 (xa + 617)) (fun v σ' h => ?_), fun v f3 z h => ?_⟩⟩
    · obtain ⟨⟨z, e1, e2⟩, e3⟩ := h
      rw [uR z0 z h6 e2] at e1
      exact ⟨e1, e3⟩
    · obtain ⟨e1, σ3, e2, e3, e4⟩ := h
      obtain ⟨i1, i2⟩ := hi2.mk e4
      have ho3 := (e3 _ hLo).trans h4
      have hmo := e2.mo hM
      rw [i2] at hmo
      exact ⟨e1, ⟨_, e2 _ _ hD.1⟩, ⟨_, _, _, _, _, _, _, _, _, _, hmo⟩, ⟨go2, ho3, fun _ => h5⟩, L, σ3, PP, ⟨hD, hM, hLo, e2, go2, ho3⟩, i1⟩
set_option maxHeartbeats 4000000 in
/-- a throw -/
theorem ok_thr {l : Launch} {K : pw_K} {xa : Nat} {L : q_L} {σ : q_S} {f : pw_F} {PP : Nat → Nat → Int} (hl : lay K L xa σ f) (hi : ivt σ xa PP) {yD yW yM : MethodName} {bD bW bM : ByteArray} {nD nW nM dM : Nat} {AD AW AM : List Value} {hh : List (Nat × Nat × Nat × Nat)} {E : String} {kc : Int} (hk0 : Int32.ofInt kc ≠ 0) (hdM : dM ≤ 900)
    (hv : ∀ (sz : Nat) (post : pw_F → Prop), pw_T l K yD bD nD (some .int) (rmk 9 1 6) f AD sz E post → pw_W l K yW bW nW (some .int) hh (rmk 10 1 6) f AW sz (fun v f2 z => v = some (.int (Int32.ofInt kc)) ∧ post f2))
    (hK : q_K l K L yD bD nD (some .int) 9 AD σ E (fun σ' => qcl σ σ' xa PP))
    (hR : ∀ σ2, ivt σ2 xa PP → q_C l K L yM bM nM (some .int) dM AM σ2 (fun r σ3 => r = some (vi 0) ∧ mkp (q_up σ2 (xa + 617) 0 kc) σ3 (xa + 617))) :
    ∃ (kc : Int32) (Mid : pw_F → Prop), stW l K yW bW nW hh AW f kc Mid ∧ ∀ f2, Mid f2 → bas K xa (xa + 617) (xa + 627) f2 ∧ ∃ bb : Int32, stM l K yM bM nM (some .int) AM f2 (some (.int bb)) (aft K xa (xa + 617) (xa + 627) kc bb.toInt64 (inv K xa)) := by
  obtain ⟨hD, hM, hLo, hat, go, ho⟩ := hl
  refine ⟨Int32.ofInt kc, fun f2 => ∃ (σ2 : q_S), q_at K L σ2 f2 ∧ f2 (xa + 627) = some (.inl (pE K 1, 1, .inr (.inl go))) ∧ qcl σ σ2 xa PP, ⟨10, 1, 6, ⟨by omega, by omega, by omega⟩, fun sz => ⟨_, hv sz _ (hK f sz hat), fun v f2 z h => ?_⟩⟩, fun f2 h2 => ?_⟩
  · obtain ⟨h1, σ', h2, h3, h4⟩ := h
    exact ⟨h1, σ', h2, (h3 _ hLo).trans ho, h4⟩
  · obtain ⟨σ2, h3, h4, h7⟩ := h2
    have hi2 := h7.iv hi
    refine ⟨lay.bas (σ := σ2) ⟨hD, hM, hLo, h3, go, h4⟩, 0, dM, 0, 0, ⟨by omega, by omega, by omega⟩, fun sz => ⟨_, (hR σ2 hi2).as h3 sz (r := some (vi 0)) (F := fun σ3 => mkp (q_up σ2 (xa + 617) 0 kc) σ3 (xa + 617)) (fun v σ' h => h), fun v f3 z h => ?_⟩⟩
    obtain ⟨e1, σ3, e2, e3, e4⟩ := h
    obtain ⟨i1, i2⟩ := hi2.mk e4
    have ho3 := (e3 _ hLo).trans h4
    have hmo := e2.mo hM
    rw [i2] at hmo
    exact ⟨e1, ⟨_, e2 _ _ hD.1⟩, ⟨_, _, _, _, _, _, _, _, _, _, hmo⟩, ⟨go, ho3, fun h0 => absurd h0 hk0⟩, L, σ3, PP, ⟨hD, hM, hLo, e2, go, ho3⟩, i1⟩
/-- a world that differs in the number thrown alone -/
theorem inv_thr {K : pw_K} {xa : Nat} {L : q_L} {σ : q_S} {f f2 : pw_F} {PP : Nat → Nat → Int} (hl : lay K L xa σ f) (hi : ivt σ xa PP) {cd : Int32} {A B C D E F G H I : Nat → Int32} (hm : mo K f2 (xa + 617) cd (Int32.ofInt (σ (xa + 617) 9)) A B C D E F G H I) (he : ∀ q, q ≠ xa + 617 → f2 q = f q) : inv K xa f2 := by
  obtain ⟨hD, hM, hLo, hat, go, ho⟩ := hl
  have hk : mkp (q_up σ (xa + 617) 0 cd.toInt) (q_up σ (xa + 617) 0 cd.toInt) (xa + 617) := ⟨fun _ _ _ _ _ _ _ _ _ => rfl, fun _ _ => rE.rfl, fun _ _ => rfl⟩
  refine ⟨L, q_up σ (xa + 617) 0 cd.toInt, PP, ⟨hD, hM, hLo, fun q c hq => ?_, go, by rw [he _ (by omega)]; exact ho⟩, (hi.mk hk).1⟩
  by_cases h1 : q = xa + 617
  · subst h1
    rw [hM.1] at hq
    rw [hm.1, ← Option.some.inj hq]
    simp only [q_e, q_fl, q_up_self, vi_t, vi]
    rw [q_up_k _ _ (by omega)]
    simp
  · rw [he q h1, hat q c hq]
    congr 1
    unfold q_e
    rw [q_up_a _ _ h1]
theorem lay.dk {K : pw_K} {L : q_L} {xa : Nat} {σ : q_S} {f : pw_F} (h : lay K L xa σ f) : dkO K f xa := by
  obtain ⟨hD, hM, hLo, hat, go, ho⟩ := h
  obtain ⟨g, h1, h2⟩ := hD.2.1
  exact ⟨hat _ _ hD.1, g, hat _ _ h1, h2⟩
theorem lay.he {K : pw_K} {L : q_L} {xa : Nat} {σ : q_S} {f : pw_F} (h : lay K L xa σ f) {j : Nat} (hj : j < 2) : heO f (xa + 2 + 177 * j) (Int32.ofInt (σ (xa + 2 + 177 * j) 4)) (Int32.ofInt (σ (xa + 2 + 177 * j) 5)) (Int32.ofInt (σ (xa + 2 + 177 * j) 6)) (Int32.ofInt (σ (xa + 2 + 177 * j) 7)) (Int32.ofInt (σ (xa + 2 + 177 * j) 8)) := h.2.2.2.1 _ _ (h.1.2.2.1 j hj).1
theorem lay.py {K : pw_K} {L : q_L} {xa : Nat} {σ : q_S} {f : pw_F} (h : lay K L xa σ f) {j : Nat} (hj : j < 2) : pyO f (xa + 2 + 177 * j + 2) (Int32.ofInt (σ (xa + 2 + 177 * j + 2) 1)) := h.2.2.2.1 _ _ (h.1.2.2.1 j hj).2.2.1.1
theorem lay.tx {K : pw_K} {L : q_L} {xa : Nat} {σ : q_S} {f : pw_F} (h : lay K L xa σ f) : txO f (xa + 612) (Int32.ofInt (σ (xa + 612) 3)) := h.2.2.2.1 _ _ h.1.2.2.2.2.2.1
