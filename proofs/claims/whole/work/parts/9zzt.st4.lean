/-! EVERY CALL AT THE LAW: floor, put, out -/
section
variable {l : Launch} {K : pw_K} {xa : Nat} {L : q_L} {σ : q_S} {f : pw_F} {PP : Nat → Nat → Int}
set_option maxHeartbeats 4000000 in
set_option maxRecDepth 100000 in
theorem s_floor2 (hl : lay K L xa σ f) (hi : ivt σ xa PP) (hfl : nTr l) {j n m : Nat} (hj : j < 2) (hn : top (PP j) 9 = n + 1) (hm0 : m ≤ 300) (p1 : Int32) : st_floor l K xa (xa + 617) (xa + 627) (nI j) p1 0 (nI m) f (inv K xa) := by
    obtain ⟨go, ho⟩ := hl.2.2.2.2
    have hm := hl.2.2.2.1.mo hl.2.1
    have hx := hl.2.2.2.1 _ _ hl.1.1
    obtain ⟨r1, r2, r3, r4, r5, r6⟩ := hi.ref hj hn
    obtain ⟨M0, F0, d0, hg0⟩ := gch_all r3 r4 r5 r6
    have hcn := hg0.cnt
    obtain ⟨zi, hzi, rfl⟩ := i32_ex p1
    by_cases hno : zi < 0 ∨ vlo F0 d0 M0 - vhi F0 d0 M0 ≤ zi
    · refine ok_thr (dM := 8) (kc := 3) (AD := [.ref xa, vi (j : Int), vi zi, vi 0, vi (m : Int)]) (AM := [.ref (xa + 617), vi (j : Int), vi zi, vi 0, vi (m : Int)]) hl hi (by decide) (by decide) (fun sz post h => v_La_floor_NSE l K f xa (xa + 627) sz 9 1 6 (nI j) (Int32.ofInt zi) 0 (nI m) hx h) ?_ (fun σ2 hi2 => ?_)
      · refine q_K.mono (k_D_floor2 l hfl K hl.1 hj (hi.1 j hj).1 hn hzi (fun M F d h => by rw [(hg0.uniq h).2.1]; exact hno) hm0) (fun σ' hp => ?_)
        exact qcl_one hi hj hp.1 (fun q a1 a2 => hp.2 q a1 (by omega))
      · obtain ⟨r1, r2, r3, r4, r5, r6⟩ := hi2.ref hj hn
        exact c_Mo_floor2_X l K hl.2.1 hj r1 r2 r3 r4 r5 r6 hzi (fun M F d h => by rw [(hg0.uniq h).2.1]; exact hno) hm0
    obtain ⟨i, rfl⟩ := Int.eq_ofNat_of_zero_le (show 0 ≤ zi by omega)
    have hlt : (i : Int) < vlo F0 d0 M0 - vhi F0 d0 M0 := by omega
    have hokC : ∀ (σ1 : q_S) (M : Nat) (F : Nat → Nat → Int) (d : Nat → Nat) (re : Nat), heR σ1 (xa + 2 + 177 * j) (PP j) n M F d re → (i : Int) < vlo F d M - vhi F d M := fun _ M F d re h => by rw [(hg0.uniq h.1.1).2.1]; exact hlt
    have hokR : ∀ (M : Nat) (F : Nat → Nat → Int) (d : Nat → Nat), gch (PP j) n M F d → (i : Int) < vlo F d M - vhi F d M := fun M F d h => by rw [(hg0.uniq h).2.1]; exact hlt
    have hpu : ∀ w w' : Int, (fun w => flo (lk F0 d0 0) (cN F0 d0 M0) (i : Int) w (m : Int)) w → (fun w => flo (lk F0 d0 0) (cN F0 d0 M0) (i : Int) w (m : Int)) w' → w = w' := fun w w' h h' => flo.uniq (hg0.rs.choose_spec.rts) h h'
    have hpb : ∀ w : Int, (fun w => flo (lk F0 d0 0) (cN F0 d0 M0) (i : Int) w (m : Int)) w → w.natAbs < 10 ^ 100 := fun w h => by
      have h1 := flT_bd hg0 (T := 2 ^ m) (ip_pos (by decide) m) ⟨by omega, hlt⟩ (flo_flT.1 h)
      have h2 : (2 : Int) ^ m ≤ 2 ^ 300 := ip_le (by decide) hm0
      have h3 : (w.natAbs : Int) < ((10 ^ 100 : Nat) : Int) := by
        refine Int.lt_of_le_of_lt (Int.le_trans h1 (Int.mul_le_mul_of_nonneg_left h2 (by decide))) ?_
        decide
      exact Int.ofNat_lt.1 h3
    refine ok_gen2 (dD := 9) (dM := 8) (AD := [.ref xa, vi (j : Int), vi (i : Int), vi 0, vi (m : Int)]) (AM := [.ref (xa + 617), vi (j : Int), vi (i : Int), vi 0, vi (m : Int)]) hl (by decide) (by decide) (fun r sz post h1 h2 => v_La_floor l K f xa (xa + 627) sz 9 0 0 (nI j) (Int32.ofInt (i : Int)) 0 (nI m) r hx h1 h2) (SC := fun z => ∃ (w : Int) (nd : Nat), flo (lk F0 d0 0) (cN F0 d0 M0) (i : Int) w (m : Int) ∧ ndg w.natAbs nd ∧ z = (tln w nd : Int)) (SR := fun z => ∃ (w : Int) (nd : Nat), flo (lk F0 d0 0) (cN F0 d0 M0) (i : Int) w (m : Int) ∧ ndg w.natAbs nd ∧ z = (tln w nd : Int)) (QC := fun σ' => flC σ σ' xa PP (fun w => flo (lk F0 d0 0) (cN F0 d0 M0) (i : Int) w (m : Int))) (QR := fun σ2 σ3 => flR σ2 σ3 xa (fun w => flo (lk F0 d0 0) (cN F0 d0 M0) (i : Int) w (m : Int))) ?_ (fun z z' h h' => ?_) (fun σ2 hq => ?_) (fun z z' h h' => ?_) (fun σ2 σ3 h g => fl_end hi hpu hpb h g)
    · refine q_C.mono (q_D_floor2 l K hl.1 hj (hi.1 j hj).1 hn hm0 hokC) (fun r σ' hp => ?_)
      obtain ⟨⟨M, F, d, re, ⟨w, nd, h1, h5, h6, h7, h8⟩, h2⟩, h3, h4⟩ := hp
      have hw := hg0.flou h2.1.1 h1
      refine ⟨⟨_, h6, w, nd, hw, h5, rfl⟩, fun i' hi' => ?_, fun q hq => h4 q (by omega) (by omega) (by omega), w, nd, hw, h5, h7, h8⟩
      by_cases e : i' = j
      · subst e; exact hin.rdy h3 hn h2
      · exact (hi.1 i' hi').1.mv (fun q h1 h2 => h4 q (by omega) (by omega) (by omega))
    · obtain ⟨w, nd, h1, h2, rfl⟩ := h
      obtain ⟨w', nd', h1', h2', rfl⟩ := h'
      obtain rfl := hpu w w' h1 h1'
      rw [ndg_u h2 h2']
    · obtain ⟨-, -, r3, r4, r5, r6⟩ := hi.ref hj hn
      obtain ⟨r1, r2⟩ := hq.ref hi hj hn
      refine q_C.mono (c_Mo_floor2 l K hl.2.1 hj r1 r2 r3 r4 r5 r6 hm0 hokR) (fun r σ' hp => ?_)
      obtain ⟨⟨M, F, d, hg, w, nd, h1, h5, h6, h7, h8⟩, h2, h3⟩ := hp
      have hw := hg0.flou hg h1
      exact ⟨⟨_, h6, w, nd, hw, h5, rfl⟩, h2, h3, w, nd, hw, h5, h7, h8⟩
    · obtain ⟨w, nd, h1, h2, rfl⟩ := h
      obtain ⟨w', nd', h1', h2', rfl⟩ := h'
      obtain rfl := hpu w w' h1 h1'
      rw [ndg_u h2 h2']
set_option maxHeartbeats 4000000 in
set_option maxRecDepth 100000 in
theorem s_floorT (hl : lay K L xa σ f) (hi : ivt σ xa PP) (hfl : nTr l) {j n m : Nat} (hj : j < 2) (hn : top (PP j) 9 = n + 1) (hm0 : m ≤ 90) (p1 : Int32) : st_floor l K xa (xa + 617) (xa + 627) (nI j) p1 1 (nI m) f (inv K xa) := by
    obtain ⟨go, ho⟩ := hl.2.2.2.2
    have hm := hl.2.2.2.1.mo hl.2.1
    have hx := hl.2.2.2.1 _ _ hl.1.1
    obtain ⟨r1, r2, r3, r4, r5, r6⟩ := hi.ref hj hn
    obtain ⟨M0, F0, d0, hg0⟩ := gch_all r3 r4 r5 r6
    have hcn := hg0.cnt
    obtain ⟨zi, hzi, rfl⟩ := i32_ex p1
    by_cases hno : zi < 0 ∨ vlo F0 d0 M0 - vhi F0 d0 M0 ≤ zi
    · refine ok_thr (dM := 8) (kc := 3) (AD := [.ref xa, vi (j : Int), vi zi, vi 1, vi (m : Int)]) (AM := [.ref (xa + 617), vi (j : Int), vi zi, vi 1, vi (m : Int)]) hl hi (by decide) (by decide) (fun sz post h => v_La_floor_NSE l K f xa (xa + 627) sz 9 1 6 (nI j) (Int32.ofInt zi) 1 (nI m) hx h) ?_ (fun σ2 hi2 => ?_)
      · refine q_K.mono (k_D_floorT l hfl K hl.1 hj (hi.1 j hj).1 hn hzi (fun M F d h => by rw [(hg0.uniq h).2.1]; exact hno) hm0) (fun σ' hp => ?_)
        exact qcl_one hi hj hp.1 (fun q a1 a2 => hp.2 q a1 (by omega))
      · obtain ⟨r1, r2, r3, r4, r5, r6⟩ := hi2.ref hj hn
        exact c_Mo_floorT_X l K hl.2.1 hj r1 r2 r3 r4 r5 r6 hzi (fun M F d h => by rw [(hg0.uniq h).2.1]; exact hno) hm0
    obtain ⟨i, rfl⟩ := Int.eq_ofNat_of_zero_le (show 0 ≤ zi by omega)
    have hlt : (i : Int) < vlo F0 d0 M0 - vhi F0 d0 M0 := by omega
    have hokC : ∀ (σ1 : q_S) (M : Nat) (F : Nat → Nat → Int) (d : Nat → Nat) (re : Nat), heR σ1 (xa + 2 + 177 * j) (PP j) n M F d re → (i : Int) < vlo F d M - vhi F d M := fun _ M F d re h => by rw [(hg0.uniq h.1.1).2.1]; exact hlt
    have hokR : ∀ (M : Nat) (F : Nat → Nat → Int) (d : Nat → Nat), gch (PP j) n M F d → (i : Int) < vlo F d M - vhi F d M := fun M F d h => by rw [(hg0.uniq h).2.1]; exact hlt
    have hpu : ∀ w w' : Int, (fun w => flT (lk F0 d0 0) (cN F0 d0 M0) (i : Int) w (10 ^ m)) w → (fun w => flT (lk F0 d0 0) (cN F0 d0 M0) (i : Int) w (10 ^ m)) w' → w = w' := fun w w' h h' => flT.uniq (hg0.rs.choose_spec.rts) (ip_pos (by decide) m) h h'
    have hpb : ∀ w : Int, (fun w => flT (lk F0 d0 0) (cN F0 d0 M0) (i : Int) w (10 ^ m)) w → w.natAbs < 10 ^ 100 := fun w h => by
      have h1 := flT_bd hg0 (T := 10 ^ m) (ip_pos (by decide) m) ⟨by omega, hlt⟩ (h)
      have h2 : (10 : Int) ^ m ≤ 10 ^ 90 := ip_le (by decide) hm0
      have h3 : (w.natAbs : Int) < ((10 ^ 100 : Nat) : Int) := by
        refine Int.lt_of_le_of_lt (Int.le_trans h1 (Int.mul_le_mul_of_nonneg_left h2 (by decide))) ?_
        decide
      exact Int.ofNat_lt.1 h3
    refine ok_gen2 (dD := 9) (dM := 8) (AD := [.ref xa, vi (j : Int), vi (i : Int), vi 1, vi (m : Int)]) (AM := [.ref (xa + 617), vi (j : Int), vi (i : Int), vi 1, vi (m : Int)]) hl (by decide) (by decide) (fun r sz post h1 h2 => v_La_floor l K f xa (xa + 627) sz 9 0 0 (nI j) (Int32.ofInt (i : Int)) 1 (nI m) r hx h1 h2) (SC := fun z => ∃ (w : Int) (nd : Nat), flT (lk F0 d0 0) (cN F0 d0 M0) (i : Int) w (10 ^ m) ∧ ndg w.natAbs nd ∧ z = (tln w nd : Int)) (SR := fun z => ∃ (w : Int) (nd : Nat), flT (lk F0 d0 0) (cN F0 d0 M0) (i : Int) w (10 ^ m) ∧ ndg w.natAbs nd ∧ z = (tln w nd : Int)) (QC := fun σ' => flC σ σ' xa PP (fun w => flT (lk F0 d0 0) (cN F0 d0 M0) (i : Int) w (10 ^ m))) (QR := fun σ2 σ3 => flR σ2 σ3 xa (fun w => flT (lk F0 d0 0) (cN F0 d0 M0) (i : Int) w (10 ^ m))) ?_ (fun z z' h h' => ?_) (fun σ2 hq => ?_) (fun z z' h h' => ?_) (fun σ2 σ3 h g => fl_end hi hpu hpb h g)
    · refine q_C.mono (q_D_floorT l K hl.1 hj (hi.1 j hj).1 hn hm0 hokC) (fun r σ' hp => ?_)
      obtain ⟨⟨M, F, d, re, ⟨w, nd, h1, h5, h6, h7, h8⟩, h2⟩, h3, h4⟩ := hp
      have hw := hg0.flTu h2.1.1 h1
      refine ⟨⟨_, h6, w, nd, hw, h5, rfl⟩, fun i' hi' => ?_, fun q hq => h4 q (by omega) (by omega) (by omega), w, nd, hw, h5, h7, h8⟩
      by_cases e : i' = j
      · subst e; exact hin.rdy h3 hn h2
      · exact (hi.1 i' hi').1.mv (fun q h1 h2 => h4 q (by omega) (by omega) (by omega))
    · obtain ⟨w, nd, h1, h2, rfl⟩ := h
      obtain ⟨w', nd', h1', h2', rfl⟩ := h'
      obtain rfl := hpu w w' h1 h1'
      rw [ndg_u h2 h2']
    · obtain ⟨-, -, r3, r4, r5, r6⟩ := hi.ref hj hn
      obtain ⟨r1, r2⟩ := hq.ref hi hj hn
      refine q_C.mono (c_Mo_floorT l K hl.2.1 hj r1 r2 r3 r4 r5 r6 hm0 hokR) (fun r σ' hp => ?_)
      obtain ⟨⟨M, F, d, hg, w, nd, h1, h5, h6, h7, h8⟩, h2, h3⟩ := hp
      have hw := hg0.flTu hg h1
      exact ⟨⟨_, h6, w, nd, hw, h5, rfl⟩, h2, h3, w, nd, hw, h5, h7, h8⟩
    · obtain ⟨w, nd, h1, h2, rfl⟩ := h
      obtain ⟨w', nd', h1', h2', rfl⟩ := h'
      obtain rfl := hpu w w' h1 h1'
      rw [ndg_u h2 h2']
set_option maxHeartbeats 4000000 in
set_option maxRecDepth 100000 in
theorem s_floor (hl : lay K L xa σ f) (hi : ivt σ xa PP) (hfl : nTr l) (p0 p1 p2 p3 : Int32) (hp2 : p2 = 0 ∨ p2 = 1) : st_floor l K xa (xa + 617) (xa + 627) p0 p1 p2 p3 f (inv K xa) := by
  obtain ⟨go, ho⟩ := hl.2.2.2.2
  have hm := hl.2.2.2.1.mo hl.2.1
  have hx := hl.2.2.2.1 _ _ hl.1.1
  rcases p_cases p0 with hc | ⟨j, hj, rfl⟩
  · exact rf_floor_P hl.dk hm ho ⟨by omega, by omega⟩ (fun f2 cd h1 h2 => inv_thr hl hi h1 h2) hfl p0 p1 p2 p3 hc
  rcases (f_cases p2 p3).symm with hc | ⟨e0, e1⟩
  · exact rf_floor_A hl.dk hm ho ⟨by omega, by omega⟩ (fun f2 cd h1 h2 => inv_thr hl hi h1 h2) hfl j hj p1 p2 p3 hc
  rcases Nat.eq_zero_or_pos (top (PP j) 9) with h0 | h0
  · exact rf_floor_N hl.dk hm ho ⟨by omega, by omega⟩ (fun f2 cd h1 h2 => inv_thr hl hi h1 h2) hfl j hj (hl.he hj) (hl.py hj) (hi.neg hj h0).2.2.1 (hi.neg hj h0).2.2.2 p1 p2 p3 e0 e1
  · obtain ⟨n, hn⟩ : ∃ n, top (PP j) 9 = n + 1 := ⟨top (PP j) 9 - 1, by omega⟩
    rcases hp2 with rfl | rfl
    · obtain ⟨m, hm0, rfl⟩ := nI_of2 (n := 300) (M := 300) (by decide) e0 (e1.2 rfl)
      exact s_floor2 hl hi hfl hj hn hm0 p1
    · obtain ⟨m, hm0, rfl⟩ := nI_of2 (n := 90) (M := 90) (by decide) e0 (e1.1 (by decide))
      exact s_floorT hl hi hfl hj hn hm0 p1
set_option maxHeartbeats 4000000 in
set_option maxRecDepth 100000 in
theorem s_put (hl : lay K L xa σ f) (hi : ivt σ xa PP) (hfl : nTr l) (p0 p1 p2 : Int32) : st_put l K xa (xa + 617) (xa + 627) p0 p1 p2 f (inv K xa) := by
  obtain ⟨go, ho⟩ := hl.2.2.2.2
  have hm := hl.2.2.2.1.mo hl.2.1
  have hx := hl.2.2.2.1 _ _ hl.1.1
  rcases p_cases p0 with hc | ⟨j, hj, rfl⟩
  · exact rf_put_P hl.dk hm ho ⟨by omega, by omega⟩ (fun f2 cd h1 h2 => inv_thr hl hi h1 h2) hfl p0 p1 p2 hc
  rcases k_cases p1 with hc | ⟨k, hk, rfl⟩
  · exact rf_put_A hl.dk hm ho ⟨by omega, by omega⟩ (fun f2 cd h1 h2 => inv_thr hl hi h1 h2) hfl j hj p1 p2 hc
  obtain ⟨t, ht, rfl⟩ := i32_ex p2
  obtain ⟨hD, hM, hLo, hat, -⟩ := hl
  refine ⟨0, fun f2 => ∃ (σ2 : q_S), q_at K L σ2 f2 ∧ f2 (xa + 627) = some (.inl (pE K 1, 1, .inr (.inl go))) ∧ hin σ2 (xa + 2 + 177 * j) (upP (PP j) k t) ∧ ∀ q, (q < xa + 2 + 177 * j ∨ xa + 2 + 177 * j + 177 ≤ q) → σ2 q = σ q, ⟨10, 0, 0, ⟨by omega, by omega, by omega⟩, fun sz => ⟨_, v_La_put l K f xa sz 9 0 0 (nI j) (nI k) (Int32.ofInt t) hx (post := fun f2 _ => ∃ σ' : q_S, q_at K L σ' f2 ∧ (∀ q, L q = none → f2 q = f q) ∧ hin σ' (xa + 2 + 177 * j) (upP (PP j) k t) ∧ ∀ q, (q < xa + 2 + 177 * j ∨ xa + 2 + 177 * j + 177 ≤ q) → σ' q = σ q) ((q_D_put l K hD hj hk ht (hi.1 j hj).1).as hat sz (fun v σ' h => h)), fun v f2 z h => ?_⟩⟩, fun f2 h2 => ?_⟩
  · obtain ⟨h1, σ', h2, h3, h4⟩ := h
    exact ⟨h1, σ', h2, (h3 _ hLo).trans ho, h4⟩
  · obtain ⟨σ2, h3, h4, h5, h6⟩ := h2
    have hz9 := (hi.1 j hj).1.1.2.2.2.1
    refine ⟨lay.bas (σ := σ2) ⟨hD, hM, hLo, h3, go, h4⟩, 2, 0, 0, ⟨by omega, by omega, by omega⟩, fun sz => ⟨_, (c_Mo_put2 l K (P := PP j) hM hj hk ht hz9 (by rw [h6 _ (by omega)]; exact (hi.1 j hj).2.1) (fun i hi' => ((hi.1 j hj).2.2 i hi').mv (rE_of (h6 _ (by omega)) (h6 _ (by omega)) (h6 _ (by omega)) _))).as h3 sz (fun v σ' h => h), fun v f3 z h => ?_⟩⟩
    obtain ⟨e1, σ3, e2, e3, g1, g2, g3, g4, g5, g6, g7⟩ := h
    have ho3 := (e3 _ hLo).trans h4
    have hmo := e2.mo hM
    rw [g1] at hmo
    obtain ⟨i1, nd, i2, i3, i4, i5⟩ := hi
    have e : ∀ q, q < xa + 617 → σ3 q = σ2 q := fun q hq => g7 q (by omega) (by omega) (by omega) (by omega) (by omega) (by omega)
    have e8 : σ3 (xa + 617 + 8) = σ (xa + 617 + 8) := by rw [g7 _ (by omega) (by omega) (by omega) (by omega) (by omega) (by omega), h6 _ (by omega)]
    refine ⟨e1, go 0, ⟨_, e2 _ _ hD.1⟩, ⟨_, _, _, _, _, _, _, _, _, _, hmo⟩, ⟨go, ho3, fun _ => rfl⟩, L, σ3, fun i => if i = j then upP (PP j) k t else PP i, ⟨hD, hM, hLo, e2, go, ho3⟩, fun i hi' => ?_, nd, i2, by rw [e _ (by omega), h6 _ (by omega)]; exact i3, by rw [g6 9 (by decide), h6 _ (by omega)]; exact i4, fun c hc => ?_⟩
    · by_cases hij : i = j
      · subst hij
        simp only [if_true]
        exact ⟨h5.mv (fun q _ a2 => e q (by omega)), g2, fun c hc => g3 c (by have := top_le9 (upP (PP i) k t) 9; omega)⟩
      · simp only [if_neg hij]
        refine ⟨(i1 i hi').1.mv (fun q a1 a2 => by rw [e q (by omega), h6 q (by omega)]), by rw [g5 i hij, h6 _ (by omega)]; exact (i1 i hi').2.1, fun c hc => (((i1 i hi').2.2 c hc).mv (rE_of (h6 _ (by omega)) (h6 _ (by omega)) (h6 _ (by omega)) _)).mv (g4 _ (by have := top_le9 (PP i) 9; omega))⟩
    · rw [e _ (by omega), h6 _ (by omega), e8]
      exact i5 c hc
set_option maxHeartbeats 4000000 in
set_option maxRecDepth 100000 in
theorem s_out (hl : lay K L xa σ f) (hi : ivt σ xa PP) (hfl : nTr l) (p0 : Int32) : st_out l K xa (xa + 617) (xa + 627) p0 f (inv K xa) := by
  obtain ⟨go, ho⟩ := hl.2.2.2.2
  have hm := hl.2.2.2.1.mo hl.2.1
  have hx := hl.2.2.2.1 _ _ hl.1.1
  have hi0 := hi
  obtain ⟨i1, nd, i2, i3, i4, i5⟩ := hi0
  obtain ⟨z, hz, rfl⟩ := i32_ex p0
  by_cases hno : z < 0 ∨ (nd : Int) ≤ z
  · have htx := hl.tx
    rw [i3] at htx
    refine rf_out hl.dk hm ho ⟨by omega, by omega⟩ (fun f2 cd h1 h2 => inv_thr hl hi h1 h2) hfl (Int32.ofInt (nd : Int)) htx (Int32.ofInt z) ?_ ?_
    · rcases hno with h | h
      · exact Or.inl ((q_lt hz (by decide) (y := 0)).2 h)
      · right; rw [q_lt hz (by omega)]; omega
    · rw [i4]
      rcases hno with h | h
      · exact Or.inl ((q_lt hz (by decide) (y := 0)).2 h)
      · right
        have e1 : Int32.ofInt (nd : Int) - 1 = Int32.ofInt ((nd : Int) - 1) := (q_isub_eq (nd : Int) 1).symm
        rw [e1, q_lt (by omega) hz]
        omega
  obtain ⟨k, rfl⟩ := Int.eq_ofNat_of_zero_le (show 0 ≤ z by omega)
  have hkn : k < nd := by omega
  obtain ⟨hD, hM, hLo, hat, -⟩ := hl
  have hC := q_D_out l K (x := xa) (k := k) (n := nd) hD i3 i2 hkn (fun i hi' => (i5 i hi').2)
  have hR : ∀ σ2 : q_S, σ2 = σ → q_C l K L y_Mo_out b_Mo_out 5 (some .long) 1 [.ref (xa + 617), vi (k : Int)] σ2 (fun v σ' => v = some (vl (dv 256 (fun i => σ (xa + 612 + 1) (k + i)) (min 8 (nd - k)))) ∧ σ' = q_up σ2 (xa + 617) 0 0) := fun σ2 h => by
    subst h
    have h1 := q_Mo_out l K (m := xa + 617) (k := k) (n := nd) hM i4 (by omega) hkn (fun i hi' => by rw [← (i5 i hi').1]; exact (i5 i hi').2)
    have h2 : dv 256 (fun i => σ2 (xa + 617 + 8) (k + i)) (min 8 (nd - k)) = dv 256 (fun i => σ2 (xa + 612 + 1) (k + i)) (min 8 (nd - k)) := dv_congr (fun i hi' => ((i5 (k + i) (by omega)).1).symm)
    rw [h2] at h1
    exact h1
  generalize dv 256 (fun i => σ (xa + 612 + 1) (k + i)) (min 8 (nd - k)) = w at *
  refine ⟨0, fun f2 => ∃ (go2 : Nat → Int64), q_at K L σ f2 ∧ f2 (xa + 627) = some (.inl (pE K 1, 1, .inr (.inl go2))) ∧ go2 0 = Int64.ofInt w, ⟨2, 0, 0, ⟨by omega, by omega, by omega⟩, fun sz => ⟨_, v_La_out l K f xa (xa + 627) sz 1 0 0 (Int32.ofInt (k : Int)) (Int64.ofInt w) hx (post := fun f2 _ => ∃ σ' : q_S, q_at K L σ' f2 ∧ (∀ q, L q = none → f2 q = f q) ∧ σ' = σ) (hC.as hat sz (fun v σ' h => h)) (fun f2 z h => ?_), fun v f2 z h => ?_⟩⟩, fun f2 h2 => ?_⟩
  · obtain ⟨σ', -, h3, -⟩ := h
    exact ⟨go, (h3 _ hLo).trans ho⟩
  · obtain ⟨h1, f1, g1, ⟨σ', h2, h3, rfl⟩, h5, rfl⟩ := h
    exact ⟨h1, g1, h2.out hLo, pw_up_self _ _ _, h5⟩
  · obtain ⟨go2, h3, h4, h5⟩ := h2
    refine ⟨lay.bas (σ := σ) ⟨hD, hM, hLo, h3, go2, h4⟩, Int64.ofInt w, 1, 0, 0, ⟨by omega, by omega, by omega⟩, fun sz => ⟨_, (hR σ rfl).as h3 sz (fun v σ' h => h), fun v f3 z h => ?_⟩⟩
    obtain ⟨e1, σ3, e2, e3, rfl⟩ := h
    have ho3 := (e3 _ hLo).trans h4
    have hmo := e2.mo hM
    obtain ⟨m1, m2⟩ := hi.mk (z := 0) mkp_up
    rw [m2] at hmo
    exact ⟨e1, ⟨_, e2 _ _ hD.1⟩, ⟨_, _, _, _, _, _, _, _, _, _, hmo⟩, ⟨go2, ho3, fun _ => h5⟩, L, _, PP, ⟨hD, hM, hLo, e2, go2, ho3⟩, m1⟩
theorem inv_step {n : Nat} (hfl : nTr l) (h : inv K xa f) : stAll l K xa (xa + 617) (xa + 627) f (inv K xa) := by
  obtain ⟨L, σ, PP, hl, hi⟩ := h
  exact ⟨fun p0 p1 p2 => s_put hl hi hfl p0 p1 p2, fun p0 => s_degree hl hi hfl p0, fun p0 => s_roots hl hi hfl p0, fun p0 => s_repeated hl hi hfl p0, fun p0 q1 p2 => s_sign hl hi hfl p0 q1 p2, fun p0 q1 p2 q3 p4 => s_between hl hi hfl p0 q1 p2 q3 p4, fun p0 p1 => s_multiple hl hi hfl p0 p1, fun p0 p1 q2 p3 => s_side hl hi hfl p0 p1 q2 p3, fun p0 p1 p2 p3 h2 => s_floor hl hi hfl p0 p1 p2 p3 h2, fun p0 => s_apart hl hi hfl p0, fun p0 p1 => s_order hl hi hfl p0 p1, fun p0 p1 => s_signAt hl hi hfl p0 p1, s_common hl hi hfl, fun p0 => s_out hl hi hfl p0⟩
end
