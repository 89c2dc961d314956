/-! HELD: isolate, with what it means -/
/-- the cell lies between -2 and 2 to the 32 -/
def zin (z lev : Int) : Prop := -2 ^ (32 + lev).toNat ≤ z ∧ z + 1 ≤ 2 ^ (32 + lev).toNat
theorem ipow_le {a b : Nat} (h : a ≤ b) : (2 : Int) ^ a ≤ 2 ^ b := ip_le (by decide) h
theorem pt_bd {y lev : Int} {Lm : Nat} (h : y.natAbs ≤ 2 ^ (32 + lev).toNat) (h1 : -32 ≤ lev) (h2 : lev ≤ Lm) : (ptX y lev).natAbs ≤ 2 ^ (33 + Lm) := by
  unfold ptX
  split
  · exact Nat.le_trans h (Nat.pow_le_pow_right (by omega) (by omega))
  · rw [Int.natAbs_mul, Int.natAbs_pow]
    refine Nat.le_trans (Nat.mul_le_mul_right _ h) ?_
    show 2 ^ (32 + lev).toNat * 2 ^ (-lev).toNat ≤ _
    rw [← Nat.pow_add]
    exact Nat.pow_le_pow_right (by omega) (by omega)
theorem nab_le {y : Int} {k : Nat} (h1 : -2 ^ k ≤ y) (h2 : y ≤ 2 ^ k) : y.natAbs ≤ 2 ^ k := by
  have : ((2 ^ k : Nat) : Int) = 2 ^ k := by push_cast; rfl
  omega
theorem zin.lo {z lev : Int} (h : zin z lev) : z.natAbs ≤ 2 ^ (32 + lev).toNat := nab_le h.1 (by have := h.2; omega)
theorem zin.hi {z lev : Int} (h : zin z lev) : (z + 1).natAbs ≤ 2 ^ (32 + lev).toNat := nab_le (by have := h.1; omega) h.2
theorem ptE_le {lev : Int} {Lm : Nat} (h : lev ≤ Lm) : ptE lev ≤ Lm := by unfold ptE; omega
/-- the cell of root i, found -/
def rcl (σ : q_S) (a i : Nat) (F : Nat → Nat → Int) (d : Nat → Nat) (M : Nat) : Prop := ∃ z lev ls x : Int, nV σ (a + 153 + 3 * i + 1) 48 z ∧ σ (a + 153 + 3 * i) 1 = lev ∧ σ (a + 153 + 3 * i) 2 = ls ∧ σ (a + 153 + 3 * i) 3 = 1 ∧ σ (a + 153 + 3 * i) 4 = x ∧ ccl (lk F d 0) (cN F d M) i z lev ls x ∧ -32 ≤ lev ∧ lev ≤ LV (d 0) ∧ zin z lev
theorem rcl.mv {σ σ' : q_S} {a i : Nat} {F : Nat → Nat → Int} {d : Nat → Nat} {M : Nat} (h : rcl σ a i F d M) (e : ∀ q, a + 153 + 3 * i ≤ q → q < a + 153 + 3 * i + 3 → σ' q = σ q) : rcl σ' a i F d M := by
  obtain ⟨z, lev, ls, x, h1, h2, h3, h4, h5, h6⟩ := h
  have e0 := e _ (Nat.le_refl _) (by omega)
  exact ⟨z, lev, ls, x, h1.mv (e _ (by omega) (by omega)) (e _ (by omega) (by omega)), by rw [e0]; exact h2, by rw [e0]; exact h3, by rw [e0]; exact h4, by rw [e0]; exact h5, h6⟩
/-- a prepared polynomial, with the roots found so far -/
def heR (σ : q_S) (a : Nat) (P : Nat → Int) (n M : Nat) (F : Nat → Nat → Int) (d : Nat → Nat) (re : Nat) : Prop := hok σ a P n M F d re ∧ ∀ i, i < 8 → σ (a + 153 + 3 * i) 3 = 0 ∨ ((i : Int) < vlo F d M - vhi F d M ∧ rcl σ a i F d M)
theorem hok.mv {σ σ' : q_S} {a : Nat} {P : Nat → Int} {n M : Nat} {F : Nat → Nat → Int} {d : Nat → Nat} {re : Nat} (h : hok σ a P n M F d re) (e0 : σ' a = σ a) (e1 : σ' (a + 22) 1 = σ (a + 22) 1) (e : ∀ q, a + 22 < q → q < a + 152 → σ' q = σ q) : hok σ' a P n M F d re := by
  obtain ⟨h1, h2, h3, h4, h5, h6, h7, h8⟩ := h
  exact ⟨h1, h2.mv e1 e, by rw [e0]; exact h3, by rw [e0]; exact h4, by rw [e0]; exact h5, by rw [e0]; exact h6, by rw [e0]; exact h7, h8⟩
theorem heR.mv {σ σ' : q_S} {a : Nat} {P : Nat → Int} {n M : Nat} {F : Nat → Nat → Int} {d : Nat → Nat} {re : Nat} (h : heR σ a P n M F d re) (e0 : σ' a = σ a) (e1 : σ' (a + 22) 1 = σ (a + 22) 1) (e : ∀ q, a + 22 < q → q < a + 177 → σ' q = σ q) : heR σ' a P n M F d re := by
  refine ⟨h.1.mv e0 e1 (fun q h1 h2 => e q h1 (by omega)), fun i hi => ?_⟩
  rcases h.2 i hi with h1 | ⟨h1, h2⟩
  · left; rw [e _ (by omega) (by omega)]; exact h1
  · exact Or.inr ⟨h1, h2.mv (fun q a1 a2 => e q (by omega) (by omega))⟩
theorem heR.dN {σ : q_S} {a : Nat} {P : Nat → Int} {n M : Nat} {F : Nat → Nat → Int} {d : Nat → Nat} {re : Nat} (h : hok σ a P n M F d re) : ∀ k, k < M + 1 → d k < chN 9 k := fun k hk => (h.2.1.2.2 k (by omega)).1

set_option maxHeartbeats 4000000 in
set_option maxRecDepth 100000 in
theorem a_He_isolate (l : Launch) (K : pw_K) {L : q_L} {σ : q_S} {a B i n M re : Nat} {P : Nat → Int} {F : Nat → Nat → Int} {d : Nat → Nat} (hL : heL L a) (hbL : beL L B) (hdj : a + 177 ≤ B ∨ B + 91 ≤ a) (hi : i < 8) (hk : hok σ a P n M F d re) (hic : (i : Int) < vlo F d M - vhi F d M) (hfd : σ (a + 153 + 3 * i) 3 = 0) : q_C l K L y_He_isolate b_He_isolate 10 none 6 [.ref a, vi i, .ref B] σ (fun r σ' => r = none ∧ rcl σ' a i F d M ∧ σ' (a + 22) 1 = σ (a + 22) 1 ∧ (∀ q, (q ≤ B ∨ (B + 7 ≤ q ∧ q ≤ B + 24) ∨ B + 28 ≤ q) → q ≠ a + 22 → (q < a + 153 + 3 * i ∨ a + 153 + 3 * i + 2 < q) → σ' q = σ q)) := by
  obtain ⟨hg, hc, h4, h5, h6, h7, h8, hre, hre2⟩ := hk
  obtain ⟨s, hs⟩ := hg.rs
  have hr := hs.rts
  have hrc := hg.rch hre2
  have hcn := hg.cnt
  have hn8 := hg.2.2.1
  have hd8 : d 0 ≤ 8 := by omega
  have hi0 : (0 : Int) ≤ (i : Int) ∧ (i : Int) < vlo F d M - vhi F d M := ⟨by omega, hic⟩
  have hI := iso_inv hr hrc hi0
  have hE := fun t => iso_end hr hrc hi0 (t := t)
  have hLv := isoL_LV (d 0) hd8
  have hLv2 : LV (d 0) ≤ 620 := by show 572 ≤ 620; decide
  have h8' := uvM (d 0) hd8
  -- where the cells lie
  have zt : ∀ t : Nat, t ≤ re + isoL (d 0) → ∀ y : Int, -2 ^ t ≤ y → y ≤ 2 ^ t → y.natAbs ≤ 2 ^ (32 + (-(re : Int) + t)).toNat := by
    intro t ht y y1 y2
    refine Nat.le_trans (nab_le y1 y2) (Nat.pow_le_pow_right (by omega) (by omega))
  have fitA : ∀ t : Nat, t ≤ re + isoL (d 0) → ∀ y : Int, -2 ^ t ≤ y → y ≤ 2 ^ t → fitp F d (M + 1) (uM (d 0)) (vM (d 0)) (cM d) y (-(re : Int) + t) := by
    intro t ht y y1 y2
    have hE1 : ptE (-(re : Int) + t) ≤ LV (d 0) := ptE_le (by omega)
    obtain ⟨f1, f2, f3⟩ := hg.fit (pt_bd (zt t ht y y1 y2) (by omega) (by omega)) hE1
    exact ⟨f1, f2, f3, by omega⟩
  have hT0 : (iso F d (M + 1) (vlo F d M) (vlo F d M - vhi F d M) (re : Int) (i : Int) (re + isoL (d 0))).2.2 - (iso F d (M + 1) (vlo F d M) (vlo F d M - vhi F d M) (re : Int) (i : Int) (re + isoL (d 0))).2.1 ≤ 1 := by
    rw [(hI _).1, (hI _).2.1]
    exact hg.sep (by omega)
  have f0 : fitp F d (M + 1) (uM (d 0)) (vM (d 0)) (cM d) 0 0 := by
    obtain ⟨f1, f2, f3⟩ := hg.fit (X := ptX 0 0) (ex := ptE 0) (by rw [show ptX 0 0 = 0 from rfl]; exact Nat.zero_le _) (by rw [show ptE 0 = 0 from rfl]; omega)
    exact ⟨f1, f2, f3, by decide⟩
  refine q_C.mono (c_He_isolate l K (n := M + 1) (u := uM (d 0)) (v := vM (d 0)) (c := cM d) (w := 22) (T0 := re + isoL (d 0)) (st := vlo F d M) (ct := vlo F d M - vhi F d M) (re := (re : Int)) (F := F) (d := d) hL hbL hdj hi hfd h7 (by omega) h5 (by omega) h8 (by omega) (by omega) (by rw [hc.2.1]; omega) (by have := hc.1; omega) (fun k hk => (hc.2.2 k (by omega)).1) (fun k hk => (hc.2.2 k (by omega)).2.1) (fun k hk => (hc.2.2 k (by omega)).2.2) hg.cb f0 (fun t ht => ?_) (fun t ht => ?_) (fun t ht => ?_) (by decide) hT0 (by omega) (fun t ht => ?_) h8') (fun r σ' hp => ?_)
  · have h9 := (hI t).2.2.2.2
    have p1 : (2 : Int) ^ (t + 1) = 2 ^ t * 2 := Int.pow_succ _ _
    have := fitA (t + 1) (by omega) ((iso F d (M + 1) (vlo F d M) (vlo F d M - vhi F d M) (re : Int) (i : Int) t).1 * 2 ^ 1 + 1) (by omega) (by omega)
    rw [show -(re : Int) + ((t + 1 : Nat) : Int) = -(re : Int) + t + 1 by omega] at this
    exact this
  · have h9 := (hI t).2.2.2.2
    exact fitA t ht _ h9.1 (by omega)
  · have h9 := (hI t).2.2.2.2
    exact lim_up (lim_ofI (nab_le h9.1 (by omega))) (by omega)
  · have h9 := hI t
    rw [h9.1, h9.2.1]
    have a1 := hr.2.2 (dy (iso F d (M + 1) (vlo F d M) (vlo F d M - vhi F d M) (re : Int) (i : Int) t).1 (-(re : Int) + t))
    have a2 := hr.2.2 (dy ((iso F d (M + 1) (vlo F d M) (vlo F d M - vhi F d M) (re : Int) (i : Int) t).1 + 1) (-(re : Int) + t))
    have a3 := (nm_N (lk F d 0) (cN F d M) (dy (iso F d (M + 1) (vlo F d M) (vlo F d M - vhi F d M) (re : Int) (i : Int) t).1 (-(re : Int) + t))).1
    have a4 := (nm_N (lk F d 0) (cN F d M) (dy ((iso F d (M + 1) (vlo F d M) (vlo F d M - vhi F d M) (re : Int) (i : Int) t).1 + 1) (-(re : Int) + t))).1
    omega
  · obtain ⟨h1, T, hT, hle, b1, b2, b3, b4, b5, b6, b7⟩ := hp
    have h9 := (hI T).2.2.2.2
    have hw := ipow_le (a := T) (b := (32 + (-(re : Int) + T)).toNat) (by omega)
    exact ⟨h1, ⟨_, _, _, _, b1, b2, b3, b4, b5, hE T hle, by omega, by omega, by omega, by omega⟩, by rw [b6, hc.2.1]; omega, b7⟩
set_option maxHeartbeats 4000000 in
set_option maxRecDepth 100000 in
theorem c_He_isolate1 (l : Launch) (K : pw_K) {L : q_L} {σ : q_S} {a B i : Nat} (hL : heL L a) (hi : i < 8) (hfd : σ (a + 153 + 3 * i) 3 = 1) : q_C l K L y_He_isolate b_He_isolate 10 none 6 [.ref a, vi i, .ref B] σ (fun r σ' => r = none ∧ σ' = σ) := by
  obtain ⟨hH0, -, -, hch, ⟨rg, hrg, hrg2⟩, hroA⟩ := hL
  have hro := hroA i hi
  refine q_start [some (.ref a), some (vi i), some (.ref B), none, none, none, none, none, none, none] (by decide) (Nat.le_of_ble_eq_true rfl) (fun q h => h) ?_
  refine q_aload_n d_He_isolate_0 rfl ?_
  refine q_gr hH0 pc_He 3 (by decide) w_fl_He_35 rfl (by rfl) d_He_isolate_1 ?_
  refine q_iload_n d_He_isolate_4 rfl ?_
  refine q_aal (i) 6 (b := a + 153 + 3 * i) rfl hrg (by omega) (by omega) (by omega) (hrg2 _ hi) d_He_isolate_5 ?_
  refine q_ast_n_3 d_He_isolate_6 (by decide) rfl ?_
  refine q_aload_n d_He_isolate_7 rfl ?_
  refine q_gi hro.1 pc_Ro 3 (by decide) w_fl_He_115 rfl (by rfl) d_He_isolate_8 ?_
  refine q_topi hfd ?_
  refine q_if_eq (tgt := 15) (by omega) d_He_isolate_11 (by decide) (fun c11 => absurd c11 (by omega)) (fun c11 => ?_)
  exact q_vret rfl (⟨rfl, rfl⟩) d_He_isolate_14
set_option maxHeartbeats 4000000 in
set_option maxRecDepth 100000 in
/-- isolate, whatever was found before -/
theorem al_He_isolate (l : Launch) (K : pw_K) {L : q_L} {σ : q_S} {a B i n M re : Nat} {P : Nat → Int} {F : Nat → Nat → Int} {d : Nat → Nat} (hL : heL L a) (hbL : beL L B) (hdj : a + 177 ≤ B ∨ B + 91 ≤ a) (hk : heR σ a P n M F d re) (hic : (i : Int) < vlo F d M - vhi F d M) : q_C l K L y_He_isolate b_He_isolate 10 none 6 [.ref a, vi i, .ref B] σ (fun r σ' => r = none ∧ heR σ' a P n M F d re ∧ rcl σ' a i F d M ∧ (∀ j, j < 8 → rcl σ a j F d M → rcl σ' a j F d M) ∧ (∀ q, (q ≤ B ∨ (B + 7 ≤ q ∧ q ≤ B + 24) ∨ B + 28 ≤ q) → q ≠ a + 22 → (q < a + 153 + 3 * i ∨ a + 153 + 3 * i + 2 < q) → σ' q = σ q)) := by
  have hcn := hk.1.1.cnt
  have hn8 := hk.1.1.2.2.1
  have hi : i < 8 := by omega
  rcases hk.2 i hi with h0 | ⟨-, h1⟩
  · refine q_C.mono (a_He_isolate l K hL hbL hdj hi hk.1 hic h0) (fun r σ' hp => ?_)
    obtain ⟨p1, p2, p3, p4⟩ := hp
    have mvj : ∀ j, j < 8 → j ≠ i → ∀ q, a + 153 + 3 * j ≤ q → q < a + 153 + 3 * j + 3 → σ' q = σ q := fun j hj hji q h1 h2 => p4 q (by omega) (by omega) (by omega)
    refine ⟨p1, ⟨hk.1.mv (p4 _ (by omega) (by omega) (by omega)) p3 (fun q h1 h2 => p4 q (by omega) (by omega) (by omega)), fun j hj => ?_⟩, p2, fun j hj hj2 => ?_, p4⟩
    · by_cases hji : j = i
      · subst hji; exact Or.inr ⟨hic, p2⟩
      · rcases hk.2 j hj with h2 | ⟨h2, h3⟩
        · left; rw [mvj j hj hji _ (Nat.le_refl _) (by omega)]; exact h2
        · exact Or.inr ⟨h2, h3.mv (mvj j hj hji)⟩
    · by_cases hji : j = i
      · subst hji; exact p2
      · exact hj2.mv (mvj j hj hji)
  · have h3 := h1
    obtain ⟨z, lev, ls, x, -, -, -, h4, -⟩ := h3
    refine q_C.mono (c_He_isolate1 l K (B := B) hL hi h4) (fun r σ' hp => ?_)
    obtain ⟨p1, rfl⟩ := hp
    exact ⟨p1, hk, h1, fun j hj h => h, fun q _ _ _ => rfl⟩
