/-! EVERY CALL AT THE LAW: order, signAt, common -/
section
variable {l : Launch} {K : pw_K} {xa : Nat} {L : q_L} {σ : q_S} {f : pw_F} {PP : Nat → Nat → Int}
theorem ivt.top {σ : q_S} {xa : Nat} {PP : Nat → Nat → Int} (h : ivt σ xa PP) {j : Nat} (hj : j < 2) : σ (xa + 617 + 4) j = (top (PP j) 9 : Int) - 1 := (h.1 j hj).2.1
set_option maxHeartbeats 4000000 in
set_option maxRecDepth 100000 in
theorem s_order (hl : lay K L xa σ f) (hi : ivt σ xa PP) (hfl : nTr l) (p0 p1 : Int32) : st_order l K xa (xa + 617) (xa + 627) p0 p1 f (inv K xa) := by
  obtain ⟨go, ho⟩ := hl.2.2.2.2
  have hm := hl.2.2.2.1.mo hl.2.1
  have hx := hl.2.2.2.1 _ _ hl.1.1
  have ht0' := top_le9 (PP 0) 9
  have ht1' := top_le9 (PP 1) 9
  rcases Nat.eq_zero_or_pos (top (PP 0) 9) with h0 | h0
  · exact rf_order_N hl.dk hm ho ⟨by omega, by omega⟩ (fun f2 cd h1 h2 => inv_thr hl hi h1 h2) hfl (hl.he (j := 0) (by decide)) (hl.py (j := 0) (by decide)) (hi.neg (j := 0) (by decide) h0).2.2.1 (hi.neg (j := 0) (by decide) h0).2.2.2 p0 p1
  obtain ⟨zi, hzi, rfl⟩ := i32_ex p0
  obtain ⟨zj, hzj, rfl⟩ := i32_ex p1
  rcases Nat.eq_zero_or_pos (top (PP 1) 9) with h1 | h1
  · obtain ⟨n, hn⟩ : ∃ n, top (PP 0) 9 = n + 1 := ⟨top (PP 0) 9 - 1, by omega⟩
    refine ok_thr (dM := 7) (kc := 1) (AD := [.ref xa, vi zi, vi zj]) (AM := [.ref (xa + 617), vi zi, vi zj]) hl hi (by decide) (by decide) (fun sz post h => v_La_order_ISE l K f xa (xa + 627) sz 9 1 6 (Int32.ofInt zi) (Int32.ofInt zj) hx h) ?_ (fun σ2 hi2 => ?_)
    · exact q_K.mono (k_D_order2 l hfl K hl.1 (hi.1 0 (by decide)).1 hn (hi.neg (j := 1) (by decide) h1).1) (fun σ' hp => by rw [hp]; exact qcl.rfl' hi)
    · exact c_Mo_order_L l K hl.2.1 (hi2.top (by decide)) (hi2.top (by decide)) (by omega) (by omega) (by omega)
  obtain ⟨n, hn⟩ : ∃ n, top (PP 0) 9 = n + 1 := ⟨top (PP 0) 9 - 1, by omega⟩
  obtain ⟨n2, hn2⟩ : ∃ n, top (PP 1) 9 = n + 1 := ⟨top (PP 1) 9 - 1, by omega⟩
  obtain ⟨r1, r2, r3, r4, r5, r6⟩ := hi.ref (j := 0) (by decide) hn
  obtain ⟨M0, F0, d0, hg0⟩ := gch_all r3 r4 r5 r6
  obtain ⟨s1, s2, s3, s4, s5, s6⟩ := hi.ref (j := 1) (by decide) hn2
  obtain ⟨M1, F1, d1, hg1⟩ := gch_all s3 s4 s5 s6
  obtain ⟨t0, ht0⟩ := hg0.rs
  obtain ⟨t1, ht1⟩ := hg1.rs
  have hcn := hg0.cnt
  have hcn1 := hg1.cnt
  by_cases hno : (zi < 0 ∨ vlo F0 d0 M0 - vhi F0 d0 M0 ≤ zi) ∨ (zj < 0 ∨ vlo F1 d1 M1 - vhi F1 d1 M1 ≤ zj)
  · refine ok_thr (dM := 7) (kc := 2) (AD := [.ref xa, vi zi, vi zj]) (AM := [.ref (xa + 617), vi zi, vi zj]) hl hi (by decide) (by decide) (fun sz post h => v_La_order_NSE l K f xa (xa + 627) sz 9 1 6 (Int32.ofInt zi) (Int32.ofInt zj) hx h) ?_ (fun σ2 hi2 => ?_)
    · exact q_K.mono (k_D_order l hfl K hl.1 (hi.1 0 (by decide)).1 (hi.1 1 (by decide)).1 hn hn2 hzi hzj (fun M F d M2 F2 d2 h h' => by rw [(hg0.uniq h).2.1, (hg1.uniq h').2.1]; exact hno)) (fun σ' hp => qcl_two hp.1 hp.2.1 (fun q a1 a2 => hp.2.2 q a1 (by omega)))
    · obtain ⟨r1, r2, r3, r4, r5, r6⟩ := hi2.ref (j := 0) (by decide) hn
      obtain ⟨s1, s2, s3, s4, s5, s6⟩ := hi2.ref (j := 1) (by decide) hn2
      exact c_Mo_order_X l K hl.2.1 r1 r2 r3 r4 r5 r6 s1 s2 s3 s4 s5 s6 hzi hzj (fun M F d M2 F2 d2 h h' => by rw [(hg0.uniq h).2.1, (hg1.uniq h').2.1]; exact hno)
  obtain ⟨i, rfl⟩ := Int.eq_ofNat_of_zero_le (show 0 ≤ zi by omega)
  obtain ⟨jj, rfl⟩ := Int.eq_ofNat_of_zero_le (show 0 ≤ zj by omega)
  have hlt : (i : Int) < vlo F0 d0 M0 - vhi F0 d0 M0 := by omega
  have hlt2 : (jj : Int) < vlo F1 d1 M1 - vhi F1 d1 M1 := by omega
  refine ok_gen (dD := 9) (dM := 7) (AD := [.ref xa, vi (i : Int), vi (jj : Int)]) (AM := [.ref (xa + 617), vi (i : Int), vi (jj : Int)]) hl hi (by decide) (by decide) (fun r sz post h1 h2 => v_La_order l K f xa (xa + 627) sz 9 0 0 (Int32.ofInt (i : Int)) (Int32.ofInt (jj : Int)) r hx h1 h2) (SC := fun z => rcmp (cN F0 d0 M0) (cN F1 d1 M1) (i : Int) (jj : Int) z) (SR := fun z => rcmp (cN F0 d0 M0) (cN F1 d1 M1) (i : Int) (jj : Int) z) ?_ (fun z z' h h' => h.uniq ht0 ht1 h') (fun σ2 hi2 => ?_) (fun z z' h h' => h'.uniq ht0 ht1 h)
  · refine q_C.mono (q_D_order l K hl.1 (hi.1 0 (by decide)).1 (hi.1 1 (by decide)).1 hn hn2 (fun _ M F d re h => by rw [(hg0.uniq h.1.1).2.1]; exact hlt) (fun _ M F d re h => by rw [(hg1.uniq h.1.1).2.1]; exact hlt2)) (fun r σ' hp => ?_)
    obtain ⟨⟨M, F, d, re, M2, F2, d2, re2, ⟨rr, h1, h5⟩, h2, h3⟩, h6, h7, h8⟩ := hp
    refine ⟨⟨_, h1, ?_⟩, qcl_two (hin.rdy h6 hn h2) (hin.rdy h7 hn2 h3) h8⟩
    rw [hg0.cNu h2.1.1, hg1.cNu h3.1.1] at h5
    exact h5
  · obtain ⟨r1, r2, r3, r4, r5, r6⟩ := hi2.ref (j := 0) (by decide) hn
    obtain ⟨s1, s2, s3, s4, s5, s6⟩ := hi2.ref (j := 1) (by decide) hn2
    refine q_C.mono (c_Mo_order l K hl.2.1 r1 r2 r3 r4 r5 r6 s1 s2 s3 s4 s5 s6 (fun M F d h => by rw [(hg0.uniq h).2.1]; exact hlt) (fun M F d h => by rw [(hg1.uniq h).2.1]; exact hlt2)) (fun r σ' hp => ?_)
    obtain ⟨⟨M, F, d, M2, F2, d2, h2, h3, rr, h1, h5⟩, h8⟩ := hp
    refine ⟨⟨_, h1, ?_⟩, h8⟩
    rw [hg0.cNu h2, hg1.cNu h3] at h5
    exact h5
set_option maxHeartbeats 4000000 in
set_option maxRecDepth 100000 in
theorem s_common (hl : lay K L xa σ f) (hi : ivt σ xa PP) (hfl : nTr l) : st_common l K xa (xa + 617) (xa + 627) f (inv K xa) := by
  obtain ⟨go, ho⟩ := hl.2.2.2.2
  have hm := hl.2.2.2.1.mo hl.2.1
  have hx := hl.2.2.2.1 _ _ hl.1.1
  have ht0' := top_le9 (PP 0) 9
  have ht1' := top_le9 (PP 1) 9
  rcases Nat.eq_zero_or_pos (top (PP 0) 9) with h0 | h0
  · exact rf_common_N hl.dk hm ho ⟨by omega, by omega⟩ (fun f2 cd h1 h2 => inv_thr hl hi h1 h2) hfl (hl.he (j := 0) (by decide)) (hl.py (j := 0) (by decide)) (hi.neg (j := 0) (by decide) h0).2.2.1 (hi.neg (j := 0) (by decide) h0).2.2.2
  rcases Nat.eq_zero_or_pos (top (PP 1) 9) with h1 | h1
  · obtain ⟨n, hn⟩ : ∃ n, top (PP 0) 9 = n + 1 := ⟨top (PP 0) 9 - 1, by omega⟩
    refine ok_thr (dM := 7) (kc := 1) (AD := [.ref xa]) (AM := [.ref (xa + 617)]) hl hi (by decide) (by decide) (fun sz post h => v_La_common_ISE l K f xa (xa + 627) sz 9 1 6 hx h) ?_ (fun σ2 hi2 => ?_)
    · exact q_K.mono (k_D_common2 l hfl K hl.1 (hi.1 0 (by decide)).1 hn (hi.neg (j := 1) (by decide) h1).1) (fun σ' hp => by rw [hp]; exact qcl.rfl' hi)
    · exact c_Mo_common_L l K hl.2.1 (hi2.top (by decide)) (hi2.top (by decide)) (by omega) (by omega) (by omega)
  obtain ⟨n, hn⟩ : ∃ n, top (PP 0) 9 = n + 1 := ⟨top (PP 0) 9 - 1, by omega⟩
  obtain ⟨n2, hn2⟩ : ∃ n, top (PP 1) 9 = n + 1 := ⟨top (PP 1) 9 - 1, by omega⟩
  obtain ⟨r1, r2, r3, r4, r5, r6⟩ := hi.ref (j := 0) (by decide) hn
  obtain ⟨M0, F0, d0, hg0⟩ := gch_all r3 r4 r5 r6
  obtain ⟨s1, s2, s3, s4, s5, s6⟩ := hi.ref (j := 1) (by decide) hn2
  obtain ⟨M1, F1, d1, hg1⟩ := gch_all s3 s4 s5 s6
  obtain ⟨t0, ht0⟩ := hg0.rs
  obtain ⟨t1, ht1⟩ := hg1.rs
  have hcn := hg0.cnt
  have hcn1 := hg1.cnt
  refine ok_gen (dD := 9) (dM := 7) (AD := [.ref xa]) (AM := [.ref (xa + 617)]) hl hi (by decide) (by decide) (fun r sz post h1 h2 => v_La_common l K f xa (xa + 627) sz 9 0 0 r hx h1 h2) (SC := fun z => z = nvz (lk F0 d0 0) (cN F0 d0 M0) (ev (PP 1) (n2 + 1)) (vlo F0 d0 M0 - vhi F0 d0 M0).toNat) (SR := fun z => z = nvz (lk F0 d0 0) (cN F0 d0 M0) (ev (PP 1) (n2 + 1)) (vlo F0 d0 M0 - vhi F0 d0 M0).toNat) ?_ (fun z z' h h' => h.trans h'.symm) (fun σ2 hi2 => ?_) (fun z z' h h' => h'.trans h.symm)
  · refine q_C.mono (q_D_common l K hl.1 (hi.1 0 (by decide)).1 (hi.1 1 (by decide)).1 hn hn2) (fun r σ' hp => ?_)
    obtain ⟨⟨M, F, d, re, M2, F2, d2, re2, h1, h2, h3⟩, h6, h7, h8⟩ := hp
    refine ⟨⟨_, h1, ?_⟩, qcl_two (hin.rdy h6 hn h2) (hin.rdy h7 hn2 h3) h8⟩
    rw [(hg0.uniq h2.1.1).2.1, hg0.nvzu h2.1.1]
    refine nvz_congr (fun i hlt => ?_)
    exact (gch_vzP h3.1.1 (hg0.pla (re := 32) (i := (i : Int)) (Or.inl rfl) (by omega) ⟨by omega, by omega⟩)).symm
  · obtain ⟨r1, r2, r3, r4, r5, r6⟩ := hi2.ref (j := 0) (by decide) hn
    obtain ⟨s1, s2, s3, s4, s5, s6⟩ := hi2.ref (j := 1) (by decide) hn2
    refine q_C.mono (c_Mo_common l K hl.2.1 r1 r2 r3 r4 r5 r6 s1 s2 s3 s4 s5 s6) (fun r σ' hp => ?_)
    obtain ⟨⟨M, F, d, h2, h1⟩, h8⟩ := hp
    refine ⟨⟨_, h1, ?_⟩, h8⟩
    rw [(hg0.uniq h2).2.1, hg0.nvzu h2]
set_option maxHeartbeats 4000000 in
set_option maxRecDepth 100000 in
theorem s_signAt (hl : lay K L xa σ f) (hi : ivt σ xa PP) (hfl : nTr l) (p0 p1 : Int32) : st_signAt l K xa (xa + 617) (xa + 627) p0 p1 f (inv K xa) := by
  obtain ⟨go, ho⟩ := hl.2.2.2.2
  have hm := hl.2.2.2.1.mo hl.2.1
  have hx := hl.2.2.2.1 _ _ hl.1.1
  have ht0' := top_le9 (PP 0) 9
  have ht1' := top_le9 (PP 1) 9
  rcases p_cases p0 with hc | ⟨j, hj, rfl⟩
  · exact rf_signAt_P hl.dk hm ho ⟨by omega, by omega⟩ (fun f2 cd h1 h2 => inv_thr hl hi h1 h2) hfl p0 p1 hc
  obtain ⟨zi, hzi, rfl⟩ := i32_ex p1
  rcases Nat.eq_zero_or_pos (top (PP j) 9) with h0 | h0
  · refine ok_thr (dM := 7) (kc := 2) (AD := [.ref xa, vi (j : Int), vi zi]) (AM := [.ref (xa + 617), vi (j : Int), vi zi]) hl hi (by decide) (by decide) (fun sz post h => v_La_signAt_ISE l K f xa (xa + 627) sz 9 1 6 (nI j) (Int32.ofInt zi) hx h) ?_ (fun σ2 hi2 => ?_)
    · exact q_K.mono (k_D_signAt1 l hfl K hl.1 hj (hi.neg hj h0).1) (fun σ' hp => by rw [hp]; exact qcl.rfl' hi)
    · refine c_Mo_signAt_L l K hl.2.1 (hi2.top (by decide)) (hi2.top (by decide)) (by omega) (by omega) ?_ hj
      rcases (show j = 0 ∨ j = 1 by omega) with h | h <;> subst h <;> omega
  · obtain ⟨n, hn⟩ : ∃ n, top (PP j) 9 = n + 1 := ⟨top (PP j) 9 - 1, by omega⟩
    rcases Nat.eq_zero_or_pos (top (PP (1 - j)) 9) with h1 | h1
    · refine ok_thr (dM := 7) (kc := 2) (AD := [.ref xa, vi (j : Int), vi zi]) (AM := [.ref (xa + 617), vi (j : Int), vi zi]) hl hi (by decide) (by decide) (fun sz post h => v_La_signAt_ISE l K f xa (xa + 627) sz 9 1 6 (nI j) (Int32.ofInt zi) hx h) ?_ (fun σ2 hi2 => ?_)
      · exact q_K.mono (k_D_signAt2 l hfl K hl.1 hj (hi.1 j hj).1 hn (hi.neg (j := 1 - j) (by omega) h1).1) (fun σ' hp => by rw [hp]; exact qcl.rfl' hi)
      · refine c_Mo_signAt_L l K hl.2.1 (hi2.top (by decide)) (hi2.top (by decide)) (by omega) (by omega) ?_ hj
        rcases (show j = 0 ∨ j = 1 by omega) with h | h
        · subst h; right; rw [show 1 - 0 = 1 from rfl] at h1; omega
        · subst h; left; rw [show 1 - 1 = 0 from rfl] at h1; omega
    obtain ⟨n2, hn2⟩ : ∃ n, top (PP (1 - j)) 9 = n + 1 := ⟨top (PP (1 - j)) 9 - 1, by omega⟩
    obtain ⟨r1, r2, r3, r4, r5, r6⟩ := hi.ref hj hn
    obtain ⟨M0, F0, d0, hg0⟩ := gch_all r3 r4 r5 r6
    have hcn := hg0.cnt
    by_cases hno : zi < 0 ∨ vlo F0 d0 M0 - vhi F0 d0 M0 ≤ zi
    · refine ok_thr (dM := 7) (kc := 3) (AD := [.ref xa, vi (j : Int), vi zi]) (AM := [.ref (xa + 617), vi (j : Int), vi zi]) hl hi (by decide) (by decide) (fun sz post h => v_La_signAt_NSE l K f xa (xa + 627) sz 9 1 6 (nI j) (Int32.ofInt zi) hx h) ?_ (fun σ2 hi2 => ?_)
      · refine q_K.mono (k_D_signAt l hfl K hl.1 hj (hi.1 j hj).1 hn hzi (fun M F d h => by rw [(hg0.uniq h).2.1]; exact hno) (hi.1 (1 - j) (by omega)).1 hn2) (fun σ' hp => ?_)
        exact qcl_one hi hj hp.1 (fun q a1 a2 => hp.2 q a1 (by omega))
      · obtain ⟨r1, r2, r3, r4, r5, r6⟩ := hi2.ref hj hn
        obtain ⟨s1, s2, s3, s4, s5, s6⟩ := hi2.ref (j := 1 - j) (by omega) hn2
        exact c_Mo_signAt_X l K hl.2.1 hj rfl r1 r2 r3 r4 r5 r6 s1 s2 s3 s4 s5 s6 hzi (fun M F d h => by rw [(hg0.uniq h).2.1]; exact hno)
    obtain ⟨i, rfl⟩ := Int.eq_ofNat_of_zero_le (show 0 ≤ zi by omega)
    have hlt : (i : Int) < vlo F0 d0 M0 - vhi F0 d0 M0 := by omega
    have hpl := hg0.pla (re := 32) (i := (i : Int)) (Or.inl rfl) (by omega) ⟨by omega, hlt⟩
    refine ok_gen (dD := 9) (dM := 7) (AD := [.ref xa, vi (j : Int), vi (i : Int)]) (AM := [.ref (xa + 617), vi (j : Int), vi (i : Int)]) hl hi (by decide) (by decide) (fun r sz post h1 h2 => v_La_signAt l K f xa (xa + 627) sz 9 0 0 (nI j) (Int32.ofInt (i : Int)) r hx h1 h2) (SC := fun z => sga (lk F0 d0 0) (cN F0 d0 M0) (i : Int) (ev (PP (1 - j)) (n2 + 1)) z) (SR := fun z => sga (lk F0 d0 0) (cN F0 d0 M0) (i : Int) (ev (PP (1 - j)) (n2 + 1)) z) ?_ (fun z z' h h' => h.uniq hpl h') (fun σ2 hi2 => ?_) (fun z z' h h' => h'.uniq hpl h)
    · refine q_C.mono (q_D_signAt l K hl.1 hj (hi.1 j hj).1 hn (hi.1 (1 - j) (by omega)).1 hn2 (fun _ M F d re h => by rw [(hg0.uniq h.1.1).2.1]; exact hlt)) (fun r σ' hp => ?_)
      obtain ⟨⟨M, F, d, re, ⟨s0, h1, h5⟩, h2⟩, h3, h4⟩ := hp
      exact ⟨⟨_, h1, hg0.sgau h2.1.1 h5⟩, qcl_one hi hj (hin.rdy h3 hn h2) h4⟩
    · obtain ⟨r1, r2, r3, r4, r5, r6⟩ := hi2.ref hj hn
      obtain ⟨s1, s2, s3, s4, s5, s6⟩ := hi2.ref (j := 1 - j) (by omega) hn2
      refine q_C.mono (c_Mo_signAt l K hl.2.1 hj rfl r1 r2 r3 r4 r5 r6 s1 s2 s3 s4 s5 s6 (fun M F d h => by rw [(hg0.uniq h).2.1]; exact hlt)) (fun r σ' hp => ?_)
      obtain ⟨⟨M, F, d, hg, s0, h1, h5⟩, h2⟩ := hp
      exact ⟨⟨_, h1, hg0.sgau hg h5⟩, h2⟩
end
