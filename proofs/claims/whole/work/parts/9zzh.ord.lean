/-! HOW TWO ROOTS LIE, FROM THE REFERENCE'S CELLS -/
section
variable {q q' q1' u w : Rat → Rat} {s N s' N' : Rat → Int} {c c' i i' : Int}
theorem ord_lt (hs : rsx q s N c) (hs' : rsx q' s' N' c') {C C' x x' : Int} {j : Nat} (hj : 1 ≤ j) (h : rce q N i C j x) (h' : rce q' N' i' C' j x') (hlt : C < C') : rlt N N' i i' := by
  obtain ⟨c1, c2, c3⟩ := h
  obtain ⟨b1, b2, b3⟩ := h'
  have w0 := wd_pos j
  have hle : xl C j + wd j ≤ xl C' j := by
    rw [← xl_s C hj, xl_dy _ hj, xl_dy _ hj, dy_le]; omega
  have k1 : i + 1 ≤ nm q N (xl C' j) := by
    rcases c3 with ⟨-, q1, q2⟩ | ⟨-, q1, q2⟩
    · have := hs.nmm (x := xl C j) (y := xl C' j) (by grind)
      have := (nm_N q N (xl C j)).2.2.1 q1
      omega
    · have := hs.rts.nn hle
      omega
  have k2 : nm q' N' (xl C' j) ≤ i' := by
    rcases b3 with ⟨-, q1, q2⟩ | ⟨-, q1, q2⟩
    · omega
    · have := (nm_N q' N' (xl C' j)).1; omega
  obtain ⟨e, e0, he⟩ := hs.lim (xl C' j)
  refine ⟨xl C' j - e / 2, ?_, ?_⟩
  · rw [(he (xl C' j - e / 2) (by grind) (by grind)).1]; omega
  · have := hs'.nmm (x := xl C' j - e / 2) (y := xl C' j) (by grind); omega
theorem rce.e1 {C : Int} {j : Nat} (h : rce q N i C j 1) : nm q N (xl C j) = i ∧ N (xl C j) = i + 1 := by
  rcases h.2.2 with ⟨-, q1, q2⟩ | ⟨h0, -⟩
  · have := (nm_N q N (xl C j)).2.2.1 q1
    exact ⟨q2, by omega⟩
  · exact absurd h0 (by decide)
theorem rce.e0 {C : Int} {j : Nat} (h : rce q N i C j 0) : N (xl C j) = i ∧ nm q N (xl C j + wd j) = i + 1 := by
  rcases h.2.2 with ⟨h0, -⟩ | ⟨-, q1, q2⟩
  · exact absurd h0 (by decide)
  · exact ⟨q1, q2⟩
theorem ord_10 {C : Int} {j : Nat} (h : rce q N i C j 1) (h' : rce q' N' i' C j 0) : rlt N N' i i' := ⟨xl C j, by have := h.e1.2; omega, by have := h'.e0.1; omega⟩
theorem ord_11 (hs : rsx q s N c) (hs' : rsx q' s' N' c') {C : Int} {j : Nat} (h : rce q N i C j 1) (h' : rce q' N' i' C j 1) : rcmp N N' i i' 0 := by
  have h1 := cmp_e (j := i') hs hs' h.e1.1 h.e1.2
  have h2 := h'.e1
  have h3 : sdo q' N' i' (xl C j) = 0 := by
    rcases sdo_r (i := i') hs' (xl C j) with ⟨-, a⟩ | ⟨a, -⟩ | ⟨-, a⟩
    · omega
    · exact a
    · omega
  rw [h3] at h1
  exact h1
theorem ord_00 (hs : rsx q s N c) (hs' : rsx q' s' N' c') (dq : df q' q1') (lq1 : lp q1') (lu : lp u) (lw : lp w) (bq : ∀ x, u x * q' x + w x * q1' x = 1) (hp : pla (rb q N B0 i)) {C : Int} {j : Nat} (hj : 1 ≤ j) (h : rce q N i C j 0) (h' : rce q' N' i' C j 0) (hv : vz (rb q N B0 i) q') : rcmp N N' i i' 0 := by
  have w0 := wd_pos j
  have a1 := xl_ab hj h.1 (Int.le_of_lt h.2.1)
  have a2 := xl_ab (C := C + 1) hj (by have := h.1; omega) (by have := h.2.1; omega)
  rw [xl_s C hj] at a2
  obtain ⟨f1, f2⟩ := h.e0
  obtain ⟨g1, g2⟩ := h'.e0
  generalize xl C j = lo at *
  generalize hhi : lo + wd j = hi at *
  have lohi : lo < hi := by grind
  have n1 := (nm_N q N hi).1
  refine Or.inr (Or.inr ⟨rfl, ?_, ?_⟩)
  · rintro ⟨x0, x1, x2⟩
    obtain ⟨z, z1, z2, z3⟩ : ∃ z, i < N z ∧ N' z ≤ i' ∧ z ≤ hi := by
      rcases Rat.le_total (a := x0) (b := hi) with h9 | h9
      · exact ⟨x0, x1, x2, h9⟩
      · exact ⟨hi, by omega, by have := hs'.mono h9; omega, by grind⟩
    have z4 : lo < z := by
      refine Rat.not_le.1 (fun h9 => ?_)
      have := hs.mono h9
      omega
    obtain ⟨e1, e10, e11⟩ := hs.rlim z
    obtain ⟨e2, e20, e21⟩ := hs'.rlim z
    obtain ⟨e3, e30, e31⟩ := hs.rlim lo
    obtain ⟨m1, m10, m11, m12⟩ := min_pos e10 e20
    obtain ⟨m2, m20, m21, m22⟩ := min_pos m10 (show (0 : Rat) < 1 by grind)
    obtain ⟨m3, m30, m31, m32⟩ := min_pos e30 (show 0 < z - lo by grind)
    have A1 := e11 (z + m2 / 2) (by grind) (by grind)
    have A2 := e21 (z + 3 * m2 / 4) (by grind) (by grind)
    have A3 := e31 (lo + m3 / 2) (by grind) (by grind)
    clear e11 e21 e31
    have hb : rb q N B0 i (lo + m3 / 2) (z + m2 / 2) := ⟨by unfold ab B0 at *; grind, by unfold ab B0 at *; grind, by grind, by omega, by omega, fun h0 => absurd h0 A1.2⟩
    have := root_near hs' dq lq1 lu lw bq hp hv hb (x' := lo) (y' := z + 3 * m2 / 4) (by grind) (by grind)
    omega
  · rintro ⟨x0, x1, x2⟩
    have z4 : lo < x0 := by
      refine Rat.not_le.1 (fun h9 => ?_)
      have := hs'.mono h9
      omega
    have z5 : x0 < hi := by
      refine Rat.not_le.1 (fun h9 => ?_)
      have := hs.mono h9
      omega
    obtain ⟨e1, e10, e11⟩ := hs.rlim x0
    obtain ⟨e2, e20, e21⟩ := hs.lim hi
    obtain ⟨m1, m10, m11, m12⟩ := min_pos e10 e20
    obtain ⟨m2, m20, m21, m22⟩ := min_pos m10 (show 0 < hi - x0 by grind)
    have A1 := e11 (x0 + m2 / 4) (by grind) (by grind)
    have A2 := e21 (hi - m2 / 4) (by grind) (by grind)
    clear e11 e21
    have hb : rb q N B0 i (x0 + m2 / 4) (hi - m2 / 4) := ⟨by unfold ab B0 at *; grind, by unfold ab B0 at *; grind, by grind, by omega, by omega, fun h0 => absurd h0 A2.2⟩
    have := root_near hs' dq lq1 lu lw bq hp hv hb (x' := x0) (y' := hi - m2 / 8) (by grind) (by grind)
    have := hs'.nmm (x := hi - m2 / 8) (y := hi) (by grind)
    omega
end
theorem al_Mo_refines (l : Launch) (K : pw_K) {L : q_L} {σ : q_S} {m p i n M j : Nat} {P : Nat → Int} {F : Nat → Nat → Int} {d : Nat → Nat} {C x : Int} (hL : mL L m) (hp : p < 2) (hi : i < 8) (hg : gch P n M F d) (h1 : 1 ≤ d 0) (hq : mq σ m p F d) (hk : kat σ m p i F d M C j x) (hj : j ≤ 1970) : q_C l K L y_Mo_refines b_Mo_refines 8 none 5 [.ref m, vi p, vi i] σ (fun r σ' => r = none ∧ (∃ (C' x' : Int), kat σ' m p i F d M C' (j + 1) x') ∧ rfF σ σ' m p i) := by
  have hcn := hg.cnt
  have hn8 := hg.2.2.1
  obtain ⟨a1, a2, a3, a4⟩ := hk
  have hr := hg.hlf h1 a4
  have hx01 : x = 0 ∨ x = 1 := by rcases a4.2.2 with ⟨h9, -⟩ | ⟨h9, -⟩ <;> omega
  have hw3 : 4 + (j + 1) * d 0 / 16 + 2 ≤ 1023 := by
    have h3 : (j + 1) * d 0 ≤ 1980 * 8 := Nat.mul_le_mul (by omega) (by omega)
    have h4 := Nat.div_le_div_right (c := 16) h3
    omega
  refine q_C.mono (c_Mo_refines l K (p := p) (i := i) (n := d 0) (D := j) (cu := 127) (u := 876) (v := 126) (c := 4) (P := F 0) hL hp hi (by omega) h1 hq.1 hq.2 (fun k _ => hg.fitP k) a1 a2 a3 hx01 (hg.fitR a4.1 a4.2.1 (by omega)) (by omega) (by decide) (by decide) hw3 (by omega)) (fun r σ' hp' => ?_)
  obtain ⟨k0, k1, k2, k3, k4, k5, k6, k7⟩ := hp'
  exact ⟨k0, ⟨_, _, k1, by rw [k2]; omega, k3, hr⟩, k4, k5, k6, fun r b1 b2 b3 => k7 r (by omega) (by omega) (by omega) (by omega) (by omega) (by omega) b1 b3⟩
theorem rfF.ka {σ σ' : q_S} {m p i : Nat} {F : Nat → Nat → Int} {d : Nat → Nat} {M j : Nat} {C x : Int} (h : rfF σ σ' m p i) {p' i' : Nat} (hp : p < 2) (hp' : p' < 2) (h8 : i < 8) (h8' : i' < 8) (hne : p' ≠ p ∨ i' ≠ i) (g : kat σ m p' i' F d M C j x) : kat σ' m p' i' F d M C j x :=
  ⟨g.1.mv (h.2.2.2 _ (by omega) (by omega) (by omega)), by rw [(h.2.2.1 _ (by omega)).1]; exact g.2.1, by rw [(h.2.2.1 _ (by omega)).2]; exact g.2.2.1, g.2.2.2⟩
theorem rfF.pl {σ σ' : q_S} {m p i z e : Nat} {G : Nat → Int} (h : rfF σ σ' m p i) (hz : z < 7 ∨ (7 < z ∧ z < 10)) (he : e ≤ 8) (g : plr σ m z G e) : plr σ' m z G e := ⟨by rw [h.2.1 z (by omega)]; exact g.1, fun k hk => (g.2 k hk).mv (h.2.2.2 _ (by omega) (by omega) (by omega))⟩
theorem izF.mq {σ σ' : q_S} {m p : Nat} {F : Nat → Nat → Int} {d : Nat → Nat} (h : izF σ σ' m) (hp : p < 2) (hd : d 0 ≤ 8) (g : mq σ m p F d) : mq σ' m p F d := ⟨by rw [h.2.1 _ (by omega)]; exact g.1, fun k hk => (g.2 k hk).mv (h.2.2 _ (by omega) (by omega))⟩
theorem dvF.mq {σ σ' : q_S} {m o p : Nat} {F : Nat → Nat → Int} {d : Nat → Nat} (h : dvF σ σ' m o) (ho : 7 < o) (hp : p < 2) (hd : d 0 ≤ 8) (g : mq σ m p F d) : mq σ' m p F d := ⟨by rw [h.2.1 _ (by omega) (by omega) (by omega) (by omega)]; exact g.1, fun k hk => (g.2 k hk).mv (h.1 _ (by omega) (by omega) (by omega))⟩
