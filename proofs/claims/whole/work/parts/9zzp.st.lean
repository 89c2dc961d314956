/-! EVERY CALL AT THE LAW, from what holds between two calls -/
theorem i32_ex (p : Int32) : ∃ z : Int, (-2147483648 ≤ z ∧ z < 2147483648) ∧ p = Int32.ofInt z := ⟨p.toInt, ⟨by have := Int32.le_toInt p; exact this, by have := Int32.toInt_lt p; exact this⟩, (Int32.ofInt_toInt p).symm⟩
theorem i64_ex (p : Int64) : ∃ z : Int, (-9223372036854775808 ≤ z ∧ z < 9223372036854775808) ∧ p = Int64.ofInt z := ⟨p.toInt, ⟨by have := Int64.le_toInt p; exact this, by have := Int64.toInt_lt p; exact this⟩, (Int64.ofInt_toInt p).symm⟩
theorem qcl_one {σ σ' : q_S} {xa : Nat} {PP : Nat → Nat → Int} (hi : ivt σ xa PP) {j : Nat} (hj : j < 2) (h : hin σ' (xa + 2 + 177 * j) (PP j)) (fr : ∀ q, (q < xa + 2 + 177 * j ∨ xa + 2 + 177 * j + 177 ≤ q) → (q ≤ xa + 356 ∨ xa + 612 ≤ q) → σ' q = σ q) : qcl σ σ' xa PP := by
  refine ⟨fun i hi' => ?_, fun q hq => fr q (by omega) (by omega)⟩
  by_cases e : i = j
  · subst e; exact h
  · exact (hi.1 i hi').1.mv (fun q h1 h2 => fr q (by omega) (by omega))
theorem qcl_two {σ σ' : q_S} {xa : Nat} {PP : Nat → Nat → Int} (h : hin σ' (xa + 2 + 177 * 0) (PP 0)) (h2 : hin σ' (xa + 2 + 177 * 1) (PP 1)) (fr : ∀ q, (q < xa + 2 ∨ xa + 356 ≤ q) → (q ≤ xa + 356 ∨ xa + 612 ≤ q) → σ' q = σ q) : qcl σ σ' xa PP := by
  refine ⟨fun i hi' => ?_, fun q hq => fr q (by omega) (by omega)⟩
  rcases (show i = 0 ∨ i = 1 by omega) with e | e <;> subst e
  · exact h
  · exact h2
theorem ivt.neg {σ : q_S} {xa : Nat} {PP : Nat → Nat → Int} (h : ivt σ xa PP) {j : Nat} (hj : j < 2) (h0 : top (PP j) 9 = 0) : σ (xa + 2 + 177 * j + 2) 1 = -1 ∧ σ (xa + 617 + 4) j = -1 ∧ Int32.ofInt (σ (xa + 2 + 177 * j + 2) 1) < 0 ∧ Int32.ofInt (σ (xa + 617 + 4) j) < 0 := by
  obtain ⟨h1, h2, h3⟩ := h.1 j hj
  have e1 : σ (xa + 2 + 177 * j + 2) 1 = -1 := by rw [h1.1.2.2.2.2, h0]; rfl
  have e2 : σ (xa + 617 + 4) j = -1 := by rw [h2, h0]; rfl
  exact ⟨e1, e2, by rw [e1]; decide, by rw [e2]; decide⟩
theorem mkp_up {σ : q_S} {m : Nat} {z : Int} : mkp (q_up σ m 0 z) (q_up σ m 0 z) m := mkp.rfl'
section
variable {l : Launch} {K : pw_K} {xa : Nat} {L : q_L} {σ : q_S} {f : pw_F} {PP : Nat → Nat → Int}
set_option maxHeartbeats 4000000 in
set_option maxRecDepth 100000 in
theorem s_degree (hl : lay K L xa σ f) (hi : ivt σ xa PP) (hfl : nTr l) (p0 : Int32) : st_degree l K xa (xa + 617) (xa + 627) p0 f (inv K xa) := by
  obtain ⟨go, ho⟩ := hl.2.2.2.2
  have hm := hl.2.2.2.1.mo hl.2.1
  have hx := hl.2.2.2.1 _ _ hl.1.1
  rcases p_cases p0 with hc | ⟨j, hj, rfl⟩
  · exact rf_degree_P hl.dk hm ho ⟨by omega, by omega⟩ (fun f2 cd h1 h2 => inv_thr hl hi h1 h2) hfl p0 hc
  · have ht := top_le9 (PP j) 9
    refine ok_gen (dD := 9) (dM := 1) (AD := [.ref xa, vi (j : Int)]) (AM := [.ref (xa + 617), vi (j : Int)]) hl hi (by decide) (by decide) (fun r sz post h1 h2 => v_La_degree l K f xa (xa + 627) sz 9 0 0 (nI j) r hx h1 h2) (SC := fun z => z = (top (PP j) 9 : Int) - 1) (SR := fun z => z = (top (PP j) 9 : Int) - 1) ?_ (fun z z' h h' => h.trans h'.symm) (fun σ2 hi2 => ?_) (fun z z' h h' => h'.trans h.symm)
    · refine q_C.mono (q_D_degree l K hl.1 hj (hi.1 j hj).1.1.2.2.2.2 (by omega)) (fun r σ' hp => ?_)
      obtain ⟨h1, rfl⟩ := hp
      exact ⟨⟨_, h1, rfl⟩, qcl.rfl' hi⟩
    · refine q_C.mono (q_Mo_degree l K hl.2.1 hj (hi2.1 j hj).2.1 (by omega)) (fun r σ' hp => ?_)
      obtain ⟨h1, rfl⟩ := hp
      exact ⟨⟨_, h1, rfl⟩, mkp_up⟩
set_option maxHeartbeats 4000000 in
set_option maxRecDepth 100000 in
theorem s_roots (hl : lay K L xa σ f) (hi : ivt σ xa PP) (hfl : nTr l) (p0 : Int32) : st_roots l K xa (xa + 617) (xa + 627) p0 f (inv K xa) := by
  obtain ⟨go, ho⟩ := hl.2.2.2.2
  have hm := hl.2.2.2.1.mo hl.2.1
  have hx := hl.2.2.2.1 _ _ hl.1.1
  rcases p_cases p0 with hc | ⟨j, hj, rfl⟩
  · exact rf_roots_P hl.dk hm ho ⟨by omega, by omega⟩ (fun f2 cd h1 h2 => inv_thr hl hi h1 h2) hfl p0 hc
  rcases Nat.eq_zero_or_pos (top (PP j) 9) with h0 | h0
  · exact rf_roots_N hl.dk hm ho ⟨by omega, by omega⟩ (fun f2 cd h1 h2 => inv_thr hl hi h1 h2) hfl j hj (hl.he hj) (hl.py hj) (hi.neg hj h0).2.2.1 (hi.neg hj h0).2.2.2
  · obtain ⟨n, hn⟩ : ∃ n, top (PP j) 9 = n + 1 := ⟨top (PP j) 9 - 1, by omega⟩
    obtain ⟨r1, r2, r3, r4, r5, r6⟩ := hi.ref hj hn
    obtain ⟨M0, F0, d0, hg0⟩ := gch_all r3 r4 r5 r6
    have hcn := hg0.cnt
    refine ok_gen (dD := 9) (dM := 8) (AD := [.ref xa, vi (j : Int)]) (AM := [.ref (xa + 617), vi (j : Int)]) hl hi (by decide) (by decide) (fun r sz post h1 h2 => v_La_roots l K f xa (xa + 627) sz 9 0 0 (nI j) r hx h1 h2) (SC := fun z => z = vlo F0 d0 M0 - vhi F0 d0 M0) (SR := fun z => z = vlo F0 d0 M0 - vhi F0 d0 M0) ?_ (fun z z' h h' => h.trans h'.symm) (fun σ2 hi2 => ?_) (fun z z' h h' => h'.trans h.symm)
    · refine q_C.mono (q_D_roots l K hl.1 hj (hi.1 j hj).1 hn) (fun r σ' hp => ?_)
      obtain ⟨⟨M, F, d, re, h1, h2⟩, h3, h4⟩ := hp
      refine ⟨⟨_, h1, ?_⟩, qcl_one hi hj (hin.rdy h3 hn h2) (fun q a1 a2 => h4 q a1 (by omega))⟩
      exact (hg0.uniq h2.1.1).2.1
    · obtain ⟨r1, r2, r3, r4, r5, r6⟩ := hi2.ref hj hn
      refine q_C.mono (c_Mo_roots l K hl.2.1 hj r1 r2 r3 r4 r5 r6) (fun r σ' hp => ?_)
      obtain ⟨⟨M, F, d, hg, h1⟩, h2⟩ := hp
      refine ⟨⟨_, h1, ?_⟩, h2.mk⟩
      exact (hg0.uniq hg).2.1
set_option maxHeartbeats 4000000 in
set_option maxRecDepth 100000 in
theorem s_repeated (hl : lay K L xa σ f) (hi : ivt σ xa PP) (hfl : nTr l) (p0 : Int32) : st_repeated l K xa (xa + 617) (xa + 627) p0 f (inv K xa) := by
  obtain ⟨go, ho⟩ := hl.2.2.2.2
  have hm := hl.2.2.2.1.mo hl.2.1
  have hx := hl.2.2.2.1 _ _ hl.1.1
  rcases p_cases p0 with hc | ⟨j, hj, rfl⟩
  · exact rf_repeated_P hl.dk hm ho ⟨by omega, by omega⟩ (fun f2 cd h1 h2 => inv_thr hl hi h1 h2) hfl p0 hc
  rcases Nat.eq_zero_or_pos (top (PP j) 9) with h0 | h0
  · exact rf_repeated_N hl.dk hm ho ⟨by omega, by omega⟩ (fun f2 cd h1 h2 => inv_thr hl hi h1 h2) hfl j hj (hl.he hj) (hl.py hj) (hi.neg hj h0).2.2.1 (hi.neg hj h0).2.2.2
  · obtain ⟨n, hn⟩ : ∃ n, top (PP j) 9 = n + 1 := ⟨top (PP j) 9 - 1, by omega⟩
    obtain ⟨r1, r2, r3, r4, r5, r6⟩ := hi.ref hj hn
    obtain ⟨M0, F0, d0, hg0⟩ := gch_all r3 r4 r5 r6
    have hcn := hg0.cnt
    refine ok_gen (dD := 9) (dM := 8) (AD := [.ref xa, vi (j : Int)]) (AM := [.ref (xa + 617), vi (j : Int)]) hl hi (by decide) (by decide) (fun r sz post h1 h2 => v_La_repeated l K f xa (xa + 627) sz 9 0 0 (nI j) r hx h1 h2) (SC := fun z => z = (n : Int) - d0 0) (SR := fun z => z = (n : Int) - d0 0) ?_ (fun z z' h h' => h.trans h'.symm) (fun σ2 hi2 => ?_) (fun z z' h h' => h'.trans h.symm)
    · refine q_C.mono (q_D_repeated l K hl.1 hj (hi.1 j hj).1 hn) (fun r σ' hp => ?_)
      obtain ⟨⟨M, F, d, re, h1, h2⟩, h3, h4⟩ := hp
      refine ⟨⟨_, h1, ?_⟩, qcl_one hi hj (hin.rdy h3 hn h2) (fun q a1 a2 => h4 q a1 (by omega))⟩
      show (n : Int) - d 0 = _
      rw [(hg0.uniq h2.1.1).2.2.1]
    · obtain ⟨r1, r2, r3, r4, r5, r6⟩ := hi2.ref hj hn
      refine q_C.mono (c_Mo_repeated l K hl.2.1 hj r1 r2 r3 r4 r5 r6) (fun r σ' hp => ?_)
      obtain ⟨⟨M, F, d, hg, h1⟩, h2⟩ := hp
      refine ⟨⟨_, h1, ?_⟩, h2.mk⟩
      show (n : Int) - d 0 = _
      rw [(hg0.uniq hg).2.2.1]
set_option maxHeartbeats 4000000 in
set_option maxRecDepth 100000 in
theorem s_apart (hl : lay K L xa σ f) (hi : ivt σ xa PP) (hfl : nTr l) (p0 : Int32) : st_apart l K xa (xa + 617) (xa + 627) p0 f (inv K xa) := by
  obtain ⟨go, ho⟩ := hl.2.2.2.2
  have hm := hl.2.2.2.1.mo hl.2.1
  have hx := hl.2.2.2.1 _ _ hl.1.1
  rcases p_cases p0 with hc | ⟨j, hj, rfl⟩
  · exact rf_apart_P hl.dk hm ho ⟨by omega, by omega⟩ (fun f2 cd h1 h2 => inv_thr hl hi h1 h2) hfl p0 hc
  rcases Nat.eq_zero_or_pos (top (PP j) 9) with h0 | h0
  · exact rf_apart_N hl.dk hm ho ⟨by omega, by omega⟩ (fun f2 cd h1 h2 => inv_thr hl hi h1 h2) hfl j hj (hl.he hj) (hl.py hj) (hi.neg hj h0).2.2.1 (hi.neg hj h0).2.2.2
  · obtain ⟨n, hn⟩ : ∃ n, top (PP j) 9 = n + 1 := ⟨top (PP j) 9 - 1, by omega⟩
    obtain ⟨r1, r2, r3, r4, r5, r6⟩ := hi.ref hj hn
    obtain ⟨M0, F0, d0, hg0⟩ := gch_all r3 r4 r5 r6
    have hcn := hg0.cnt
    refine ok_gen (dD := 9) (dM := 8) (AD := [.ref xa, vi (j : Int)]) (AM := [.ref (xa + 617), vi (j : Int)]) hl hi (by decide) (by decide) (fun r sz post h1 h2 => v_La_apart l K f xa (xa + 627) sz 9 0 0 (nI j) r hx h1 h2) (SC := fun z => aps (lk F0 d0 0) (cN F0 d0 M0) (vlo F0 d0 M0 - vhi F0 d0 M0) z) (SR := fun z => aps (lk F0 d0 0) (cN F0 d0 M0) (vlo F0 d0 M0 - vhi F0 d0 M0) z) ?_ (fun z z' h h' => h.uniq h') (fun σ2 hi2 => ?_) (fun z z' h h' => h'.uniq h)
    · refine q_C.mono (q_D_apart l K hl.1 hj (hi.1 j hj).1 hn) (fun r σ' hp => ?_)
      obtain ⟨⟨M, F, d, re, ⟨rr, h1, h5⟩, h2⟩, h3, h4⟩ := hp
      exact ⟨⟨_, h1, hg0.apsu h2.1.1 h5⟩, qcl_one hi hj (hin.rdy h3 hn h2) (fun q a1 a2 => h4 q a1 (by omega))⟩
    · obtain ⟨r1, r2, r3, r4, r5, r6⟩ := hi2.ref hj hn
      refine q_C.mono (c_Mo_apart l K hl.2.1 hj r1 r2 r3 r4 r5 r6) (fun r σ' hp => ?_)
      obtain ⟨⟨M, F, d, hg, rr, h1, h5⟩, h2⟩ := hp
      exact ⟨⟨_, h1, hg0.apsu hg h5⟩, h2.mk⟩
set_option maxHeartbeats 4000000 in
set_option maxRecDepth 100000 in
theorem s_sign (hl : lay K L xa σ f) (hi : ivt σ xa PP) (hfl : nTr l) (p0 : Int32) (q1 : Int64) (p2 : Int32) : st_sign l K xa (xa + 617) (xa + 627) p0 q1 p2 f (inv K xa) := by
  obtain ⟨go, ho⟩ := hl.2.2.2.2
  have hm := hl.2.2.2.1.mo hl.2.1
  have hx := hl.2.2.2.1 _ _ hl.1.1
  rcases p_cases p0 with hc | ⟨j, hj, rfl⟩
  · exact rf_sign_P hl.dk hm ho ⟨by omega, by omega⟩ (fun f2 cd h1 h2 => inv_thr hl hi h1 h2) hfl p0 q1 p2 hc
  rcases (exS p2).symm with hc | ⟨e0, e1⟩
  · exact rf_sign_A hl.dk hm ho ⟨by omega, by omega⟩ (fun f2 cd h1 h2 => inv_thr hl hi h1 h2) hfl j hj q1 p2 hc
  rcases Nat.eq_zero_or_pos (top (PP j) 9) with h0 | h0
  · exact rf_sign_N hl.dk hm ho ⟨by omega, by omega⟩ (fun f2 cd h1 h2 => inv_thr hl hi h1 h2) hfl j hj (hl.he hj) (hl.py hj) (hi.neg hj h0).2.2.1 (hi.neg hj h0).2.2.2 q1 p2 e0 e1
  · obtain ⟨n, hn⟩ : ∃ n, top (PP j) 9 = n + 1 := ⟨top (PP j) 9 - 1, by omega⟩
    obtain ⟨ex, hex, rfl⟩ := nI_of2 (n := 62) (M := 62) (by decide) e0 e1
    obtain ⟨u, hu, rfl⟩ := i64_ex q1
    have hpn := (hi.1 j hj).1.1.pn hn
    refine ok_gen (dD := 4) (dM := 4) (AD := [.ref xa, vi (j : Int), vl u, vi (ex : Int)]) (AM := [.ref (xa + 617), vi (j : Int), vl u, vi (ex : Int)]) hl hi (by decide) (by decide) (fun r sz post h1 h2 => v_La_sign l K f xa (xa + 627) sz 4 0 0 (nI j) (Int64.ofInt u) (nI ex) r hx h1 h2) (SC := fun z => z = (hv (PP j) n u ex (n + 1)).sign) (SR := fun z => z = (hv (PP j) n u ex (n + 1)).sign) ?_ (fun z z' h h' => h.trans h'.symm) (fun σ2 hi2 => ?_) (fun z z' h h' => h'.trans h.symm)
    · refine q_C.mono (q_D_sign l K σ hl.1 hj hpn.1 hex hu hpn.2.2.2.2.1 hpn.2.2.2.2.2 (fun k _ => by have := hpn.2.2.2.1 k; omega)) (fun r σ' hp => ?_)
      obtain ⟨h1, h2⟩ := hp
      exact ⟨⟨_, h1, rfl⟩, fun i hi' => (hi.1 i hi').1.mv (fun q a1 a2 => h2 q (by omega)), fun q hq => h2 q (by omega)⟩
    · obtain ⟨r1, r2, r3, r4, r5, r6⟩ := hi2.ref hj hn
      refine q_C.mono (q_Mo_sign l K σ2 hl.2.1 hj r5 hex hu r1 r2 (fun k _ => by have := r6 k; omega)) (fun r σ' hp => ?_)
      obtain ⟨h1, h2, h3, h4, h5⟩ := hp
      refine ⟨⟨_, h1, rfl⟩, fun q a1 a2 a3 a4 a5 a6 a7 a8 => ?_, fun r hr => ?_, fun i hi' => ?_⟩
      · by_cases hq : q = xa + 617
        · subst hq
          funext k
          by_cases hk : k = 0
          · subst hk; rw [q_up_self, h2]
          · rw [q_up_k _ _ hk, h3 k hk]
        · rw [q_up_a _ _ hq, h4 q hq a1 a2 a3 a8]
      · have := h5 r (by omega) (by omega) (by omega)
        exact ⟨fun k hk => by have h9 := this.1 k hk; unfold mr at h9 ⊢; rw [q_up_a _ _ (by omega)]; exact h9, by rw [q_up_a _ _ (by omega)]; exact this.2.1, by rw [q_up_a _ _ (by omega)]; exact this.2.2⟩
      · rw [q_up_a _ _ (by omega), h4 _ (by omega) (by omega) (by omega) (by omega) (by omega)]
set_option maxHeartbeats 4000000 in
set_option maxRecDepth 100000 in
theorem s_between (hl : lay K L xa σ f) (hi : ivt σ xa PP) (hfl : nTr l) (p0 : Int32) (q1 : Int64) (p2 : Int32) (q3 : Int64) (p4 : Int32) : st_between l K xa (xa + 617) (xa + 627) p0 q1 p2 q3 p4 f (inv K xa) := by
  obtain ⟨go, ho⟩ := hl.2.2.2.2
  have hm := hl.2.2.2.1.mo hl.2.1
  have hx := hl.2.2.2.1 _ _ hl.1.1
  rcases p_cases p0 with hc | ⟨j, hj, rfl⟩
  · exact rf_between_P hl.dk hm ho ⟨by omega, by omega⟩ (fun f2 cd h1 h2 => inv_thr hl hi h1 h2) hfl p0 q1 p2 q3 p4 hc
  rcases (exS p2).symm with hc | ⟨e0, e1⟩
  · exact rf_between_A hl.dk hm ho ⟨by omega, by omega⟩ (fun f2 cd h1 h2 => inv_thr hl hi h1 h2) hfl j hj q1 p2 q3 p4 (Or.inl hc)
  rcases (exS p4).symm with hc | ⟨e2, e3⟩
  · exact rf_between_A hl.dk hm ho ⟨by omega, by omega⟩ (fun f2 cd h1 h2 => inv_thr hl hi h1 h2) hfl j hj q1 p2 q3 p4 (Or.inr hc)
  rcases Nat.eq_zero_or_pos (top (PP j) 9) with h0 | h0
  · exact rf_between_N hl.dk hm ho ⟨by omega, by omega⟩ (fun f2 cd h1 h2 => inv_thr hl hi h1 h2) hfl j hj (hl.he hj) (hl.py hj) (hi.neg hj h0).2.2.1 (hi.neg hj h0).2.2.2 q1 p2 q3 p4 e0 e1 e2 e3
  · obtain ⟨n, hn⟩ : ∃ n, top (PP j) 9 = n + 1 := ⟨top (PP j) 9 - 1, by omega⟩
    obtain ⟨r1, r2, r3, r4, r5, r6⟩ := hi.ref hj hn
    obtain ⟨M0, F0, d0, hg0⟩ := gch_all r3 r4 r5 r6
    have hcn := hg0.cnt
    obtain ⟨ex, hex, rfl⟩ := nI_of2 (n := 62) (M := 62) (by decide) e0 e1
    obtain ⟨ff, hff, rfl⟩ := nI_of2 (n := 62) (M := 62) (by decide) e2 e3
    obtain ⟨u, hu, rfl⟩ := i64_ex q1
    obtain ⟨v, hv, rfl⟩ := i64_ex q3
    refine ok_gen (dD := 9) (dM := 8) (AD := [.ref xa, vi (j : Int), vl u, vi (ex : Int), vl v, vi (ff : Int)]) (AM := [.ref (xa + 617), vi (j : Int), vl u, vi (ex : Int), vl v, vi (ff : Int)]) hl hi (by decide) (by decide) (fun r sz post h1 h2 => v_La_between l K f xa (xa + 627) sz 9 0 0 (nI j) (Int64.ofInt u) (nI ex) (Int64.ofInt v) (nI ff) r hx h1 h2) (SC := fun z => z = max 0 (cN F0 d0 M0 (dy v (ff : Int)) - cN F0 d0 M0 (dy u (ex : Int)))) (SR := fun z => z = max 0 (cN F0 d0 M0 (dy v (ff : Int)) - cN F0 d0 M0 (dy u (ex : Int)))) ?_ (fun z z' h h' => h.trans h'.symm) (fun σ2 hi2 => ?_) (fun z z' h h' => h'.trans h.symm)
    · refine q_C.mono (q_D_between l K hl.1 hj (hi.1 j hj).1 hn hu hv hex hff) (fun r σ' hp => ?_)
      obtain ⟨⟨M, F, d, re, h1, h2⟩, h3, h4⟩ := hp
      refine ⟨⟨_, h1, ?_⟩, qcl_one hi hj (hin.rdy h3 hn h2) (fun q a1 a2 => h4 q a1 (by omega))⟩
      rw [hg0.cNu h2.1.1]
    · obtain ⟨r1, r2, r3, r4, r5, r6⟩ := hi2.ref hj hn
      refine q_C.mono (c_Mo_between l K hl.2.1 hj r1 r2 r3 r4 r5 r6 hu hex hv hff) (fun r σ' hp => ?_)
      obtain ⟨⟨M, F, d, hg, h1⟩, h2⟩ := hp
      refine ⟨⟨_, h1, ?_⟩, h2.mk⟩
      rw [hg0.cNu hg]
set_option maxHeartbeats 4000000 in
set_option maxRecDepth 100000 in
theorem s_multiple (hl : lay K L xa σ f) (hi : ivt σ xa PP) (hfl : nTr l) (p0 p1 : Int32) : st_multiple l K xa (xa + 617) (xa + 627) p0 p1 f (inv K xa) := by
  obtain ⟨go, ho⟩ := hl.2.2.2.2
  have hm := hl.2.2.2.1.mo hl.2.1
  have hx := hl.2.2.2.1 _ _ hl.1.1
  rcases p_cases p0 with hc | ⟨j, hj, rfl⟩
  · exact rf_multiple_P hl.dk hm ho ⟨by omega, by omega⟩ (fun f2 cd h1 h2 => inv_thr hl hi h1 h2) hfl p0 p1 hc
  rcases Nat.eq_zero_or_pos (top (PP j) 9) with h0 | h0
  · exact rf_multiple_N hl.dk hm ho ⟨by omega, by omega⟩ (fun f2 cd h1 h2 => inv_thr hl hi h1 h2) hfl j hj (hl.he hj) (hl.py hj) (hi.neg hj h0).2.2.1 (hi.neg hj h0).2.2.2 p1
  · obtain ⟨n, hn⟩ : ∃ n, top (PP j) 9 = n + 1 := ⟨top (PP j) 9 - 1, by omega⟩
    obtain ⟨r1, r2, r3, r4, r5, r6⟩ := hi.ref hj hn
    obtain ⟨M0, F0, d0, hg0⟩ := gch_all r3 r4 r5 r6
    have hcn := hg0.cnt
    obtain ⟨zi, hzi, rfl⟩ := i32_ex p1
    by_cases hno : zi < 0 ∨ vlo F0 d0 M0 - vhi F0 d0 M0 ≤ zi
    · refine ok_thr (dM := 8) (kc := 3) (AD := [.ref xa, vi (j : Int), vi zi]) (AM := [.ref (xa + 617), vi (j : Int), vi zi]) hl hi (by decide) (by decide) (fun sz post h => v_La_multiple_NSE l K f xa (xa + 627) sz 9 1 6 (nI j) (Int32.ofInt zi) hx h) ?_ (fun σ2 hi2 => ?_)
      · refine q_K.mono (k_D_multiple l hfl K hl.1 hj (hi.1 j hj).1 hn hzi (fun M F d h => by rw [(hg0.uniq h).2.1]; exact hno)) (fun σ' hp => ?_)
        exact qcl_one hi hj hp.1 (fun q a1 a2 => hp.2 q a1 (by omega))
      · obtain ⟨r1, r2, r3, r4, r5, r6⟩ := hi2.ref hj hn
        exact c_Mo_multiple_X l K hl.2.1 hj r1 r2 r3 r4 r5 r6 hzi (fun M F d h => by rw [(hg0.uniq h).2.1]; exact hno)
    obtain ⟨i, rfl⟩ := Int.eq_ofNat_of_zero_le (show 0 ≤ zi by omega)
    have hlt : (i : Int) < vlo F0 d0 M0 - vhi F0 d0 M0 := by omega
    have hokC : ∀ (σ1 : q_S) (M : Nat) (F : Nat → Nat → Int) (d : Nat → Nat) (re : Nat), heR σ1 (xa + 2 + 177 * j) (PP j) n M F d re → (i : Int) < vlo F d M - vhi F d M := fun _ M F d re h => by rw [(hg0.uniq h.1.1).2.1]; exact hlt
    have hokR : ∀ (M : Nat) (F : Nat → Nat → Int) (d : Nat → Nat), gch (PP j) n M F d → (i : Int) < vlo F d M - vhi F d M := fun M F d h => by rw [(hg0.uniq h).2.1]; exact hlt
    refine ok_gen (dD := 9) (dM := 8) (AD := [.ref xa, vi (j : Int), vi (i : Int)]) (AM := [.ref (xa + 617), vi (j : Int), vi (i : Int)]) hl hi (by decide) (by decide) (fun r sz post h1 h2 => v_La_multiple l K f xa (xa + 627) sz 9 0 0 (nI j) (Int32.ofInt (i : Int)) r hx h1 h2) (SC := fun z => ∃ k : Nat, z = (k : Int) ∧ mspec (PP j) n F0 d0 M0 i k) (SR := fun z => ∃ k : Nat, z = (k : Int) ∧ mspec (PP j) n F0 d0 M0 i k) ?_ (fun z z' h h' => ?_) (fun σ2 hi2 => ?_) (fun z z' h h' => ?_)
    · refine q_C.mono (q_D_multiple l K hl.1 hj (hi.1 j hj).1 hn hokC) (fun r σ' hp => ?_)
      obtain ⟨⟨M, F, d, re, ⟨k, h1, h5⟩, h2⟩, h3, h4⟩ := hp
      exact ⟨⟨_, h1, k, rfl, hg0.mspu h2.1.1 h5⟩, qcl_one hi hj (hin.rdy h3 hn h2) h4⟩
    · obtain ⟨k, rfl, h1⟩ := h
      obtain ⟨k', rfl, h2⟩ := h'
      rw [h1.uniq hg0 hlt h2]
    · obtain ⟨r1, r2, r3, r4, r5, r6⟩ := hi2.ref hj hn
      refine q_C.mono (c_Mo_multiple l K hl.2.1 hj r1 r2 r3 r4 r5 r6 hokR) (fun r σ' hp => ?_)
      obtain ⟨⟨M, F, d, hg, k, h1, h5⟩, h2⟩ := hp
      exact ⟨⟨_, h1, k, rfl, hg0.mspu hg h5⟩, h2⟩
    · obtain ⟨k, rfl, h1⟩ := h
      obtain ⟨k', rfl, h2⟩ := h'
      rw [h1.uniq hg0 hlt h2]
set_option maxHeartbeats 4000000 in
set_option maxRecDepth 100000 in
theorem s_side (hl : lay K L xa σ f) (hi : ivt σ xa PP) (hfl : nTr l) (p0 p1 : Int32) (q2 : Int64) (p3 : Int32) : st_side l K xa (xa + 617) (xa + 627) p0 p1 q2 p3 f (inv K xa) := by
  obtain ⟨go, ho⟩ := hl.2.2.2.2
  have hm := hl.2.2.2.1.mo hl.2.1
  have hx := hl.2.2.2.1 _ _ hl.1.1
  rcases p_cases p0 with hc | ⟨j, hj, rfl⟩
  · exact rf_side_P hl.dk hm ho ⟨by omega, by omega⟩ (fun f2 cd h1 h2 => inv_thr hl hi h1 h2) hfl p0 p1 q2 p3 hc
  rcases (exS p3).symm with hc | ⟨e0, e1⟩
  · exact rf_side_A hl.dk hm ho ⟨by omega, by omega⟩ (fun f2 cd h1 h2 => inv_thr hl hi h1 h2) hfl j hj p1 q2 p3 hc
  rcases Nat.eq_zero_or_pos (top (PP j) 9) with h0 | h0
  · exact rf_side_N hl.dk hm ho ⟨by omega, by omega⟩ (fun f2 cd h1 h2 => inv_thr hl hi h1 h2) hfl j hj (hl.he hj) (hl.py hj) (hi.neg hj h0).2.2.1 (hi.neg hj h0).2.2.2 p1 q2 p3 e0 e1
  · obtain ⟨n, hn⟩ : ∃ n, top (PP j) 9 = n + 1 := ⟨top (PP j) 9 - 1, by omega⟩
    obtain ⟨r1, r2, r3, r4, r5, r6⟩ := hi.ref hj hn
    obtain ⟨M0, F0, d0, hg0⟩ := gch_all r3 r4 r5 r6
    have hcn := hg0.cnt
    obtain ⟨ex, hex, rfl⟩ := nI_of2 (n := 62) (M := 62) (by decide) e0 e1
    obtain ⟨u, hu, rfl⟩ := i64_ex q2
    obtain ⟨zi, hzi, rfl⟩ := i32_ex p1
    by_cases hno : zi < 0 ∨ vlo F0 d0 M0 - vhi F0 d0 M0 ≤ zi
    · refine ok_thr (dM := 8) (kc := 3) (AD := [.ref xa, vi (j : Int), vi zi, vl u, vi (ex : Int)]) (AM := [.ref (xa + 617), vi (j : Int), vi zi, vl u, vi (ex : Int)]) hl hi (by decide) (by decide) (fun sz post h => v_La_side_NSE l K f xa (xa + 627) sz 9 1 6 (nI j) (Int32.ofInt zi) (Int64.ofInt u) (nI ex) hx h) ?_ (fun σ2 hi2 => ?_)
      · refine q_K.mono (k_D_side l hfl K hl.1 hj (hi.1 j hj).1 hn hzi (fun M F d h => by rw [(hg0.uniq h).2.1]; exact hno) hex) (fun σ' hp => ?_)
        exact qcl_one hi hj hp.1 (fun q a1 a2 => hp.2 q a1 (by omega))
      · obtain ⟨r1, r2, r3, r4, r5, r6⟩ := hi2.ref hj hn
        exact c_Mo_side_X l K hl.2.1 hj r1 r2 r3 r4 r5 r6 hzi (fun M F d h => by rw [(hg0.uniq h).2.1]; exact hno) hex
    obtain ⟨i, rfl⟩ := Int.eq_ofNat_of_zero_le (show 0 ≤ zi by omega)
    have hlt : (i : Int) < vlo F0 d0 M0 - vhi F0 d0 M0 := by omega
    have hokC : ∀ (σ1 : q_S) (M : Nat) (F : Nat → Nat → Int) (d : Nat → Nat) (re : Nat), heR σ1 (xa + 2 + 177 * j) (PP j) n M F d re → (i : Int) < vlo F d M - vhi F d M := fun _ M F d re h => by rw [(hg0.uniq h.1.1).2.1]; exact hlt
    have hokR : ∀ (M : Nat) (F : Nat → Nat → Int) (d : Nat → Nat), gch (PP j) n M F d → (i : Int) < vlo F d M - vhi F d M := fun M F d h => by rw [(hg0.uniq h).2.1]; exact hlt
    refine ok_gen (dD := 9) (dM := 8) (AD := [.ref xa, vi (j : Int), vi (i : Int), vl u, vi (ex : Int)]) (AM := [.ref (xa + 617), vi (j : Int), vi (i : Int), vl u, vi (ex : Int)]) hl hi (by decide) (by decide) (fun r sz post h1 h2 => v_La_side l K f xa (xa + 627) sz 9 0 0 (nI j) (Int32.ofInt (i : Int)) (Int64.ofInt u) (nI ex) r hx h1 h2) (SC := fun z => z = sdo (lk F0 d0 0) (cN F0 d0 M0) (i : Int) (dy u (ex : Int))) (SR := fun z => z = sdo (lk F0 d0 0) (cN F0 d0 M0) (i : Int) (dy u (ex : Int))) ?_ (fun z z' h h' => h.trans h'.symm) (fun σ2 hi2 => ?_) (fun z z' h h' => h'.trans h.symm)
    · refine q_C.mono (q_D_side l K hl.1 hj (hi.1 j hj).1 hn hu hex hokC) (fun r σ' hp => ?_)
      obtain ⟨⟨M, F, d, re, h1, h2⟩, h3, h4⟩ := hp
      exact ⟨⟨_, h1, hg0.sdou h2.1.1 _ _⟩, qcl_one hi hj (hin.rdy h3 hn h2) (fun q a1 a2 => h4 q a1 (by omega))⟩
    · obtain ⟨r1, r2, r3, r4, r5, r6⟩ := hi2.ref hj hn
      refine q_C.mono (c_Mo_side l K hl.2.1 hj r1 r2 r3 r4 r5 r6 hu hex hokR) (fun r σ' hp => ?_)
      obtain ⟨⟨M, F, d, hg, h1⟩, h2⟩ := hp
      exact ⟨⟨_, h1, hg0.sdou hg _ _⟩, h2.mk⟩
end
