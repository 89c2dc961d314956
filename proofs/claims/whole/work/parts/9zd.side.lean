/-! HELD: sideOf and countUpTo, with what they mean; QUERY: compare -/
theorem sdo_b (q : Rat → Rat) (N : Rat → Int) (i : Int) (x : Rat) : -1 ≤ sdo q N i x ∧ sdo q N i x ≤ 1 := by
  unfold sdo
  split
  · omega
  · split <;> omega
set_option maxHeartbeats 4000000 in
set_option maxRecDepth 100000 in
theorem al_He_sideOf (l : Launch) (K : pw_K) {L : q_L} {σ : q_S} {a B x n M : Nat} {P : Nat → Int} {F : Nat → Nat → Int} {d : Nat → Nat} {z lev i : Int} (hL : heL L a) (hbL : beL L B) (hx : ptL L x) (hdj : a + 177 ≤ B) (hdx : x = B + 25) (hg : gch P n M F d) (hc : cst σ a M F d) (hst : σ a 7 = vlo F d M) (hX : nV σ (x + 1) 48 (ptX z lev)) (hex : σ x 1 = ptE lev) (bX : (ptX z lev).natAbs ≤ 2 ^ 605) (bE : ptE lev ≤ 572) (hi : -2147483648 ≤ i ∧ i < 2147483648) : q_C l K L y_He_sideOf b_He_sideOf 6 (some .int) 5 [.ref a, vi i, .ref x, .ref B] σ (fun r σ' => r = some (vi (sdo (lk F d 0) (cN F d M) i (dy z lev))) ∧ σ' (a + 22) 1 = σ (a + 22) 1 ∧ ∀ q, (q ≤ B ∨ B + 7 ≤ q) → q ≠ a + 22 → σ' q = σ q) := by
  have hd8 : d 0 ≤ 8 := by have := hg.cnt; have := hg.2.2.1; omega
  have hcn := hg.cnt
  obtain ⟨f1, f2, f3⟩ := hg.fit (X := ptX z lev) (ex := ptE lev) bX bE
  refine q_C.mono (c_He_sideOf l K (n := M + 1) (ex := ptE lev) (u := uM (d 0)) (v := vM (d 0)) (c := cM d) (X := ptX z lev) (st := vlo F d M) (F := F) (d := d) (by omega) hi hL hbL hx (Or.inl hdj) (by omega) (by omega) hst (by omega) (by rw [hc.2.1]; omega) (by have := hc.1; omega) (fun k hk => (hc.2.2 k (by omega)).1) (fun k hk => (hc.2.2 k (by omega)).2.1) (fun k hk => (hc.2.2 k (by omega)).2.2) hX hex (by omega) f1 hg.cb f2 (uvM (d 0) hd8) f3) (fun r σ' hp => ?_)
  obtain ⟨h1, h2, -, h4⟩ := hp
  refine ⟨h1.trans ?_, by rw [h2, hc.2.1]; omega, h4⟩
  show some (vi (if i < blw F d (M + 1) (vlo F d M) z lev then -1 else if i < upt F d (M + 1) (vlo F d M) z lev then 0 else 1)) = _
  rw [blw_nm, upt_N]
  rfl
set_option maxHeartbeats 4000000 in
set_option maxRecDepth 100000 in
theorem al_He_countUpTo (l : Launch) (K : pw_K) {L : q_L} {σ : q_S} {a B x n M : Nat} {P : Nat → Int} {F : Nat → Nat → Int} {d : Nat → Nat} {z lev : Int} (hL : heL L a) (hbL : beL L B) (hx : ptL L x) (hdj : a + 177 ≤ B) (hdx : x = B + 25) (hg : gch P n M F d) (hc : cst σ a M F d) (hst : σ a 7 = vlo F d M) (hX : nV σ (x + 1) 48 (ptX z lev)) (hex : σ x 1 = ptE lev) (bX : (ptX z lev).natAbs ≤ 2 ^ 605) (bE : ptE lev ≤ 572) : q_C l K L y_He_countUpTo b_He_countUpTo 3 (some .int) 5 [.ref a, .ref x, .ref B] σ (fun r σ' => r = some (vi (cN F d M (dy z lev))) ∧ σ' (a + 22) 1 = σ (a + 22) 1 ∧ ∀ q, (q ≤ B ∨ B + 7 ≤ q) → q ≠ a + 22 → σ' q = σ q) := by
  have hd8 : d 0 ≤ 8 := by have := hg.cnt; have := hg.2.2.1; omega
  have hcn := hg.cnt
  obtain ⟨f1, f2, f3⟩ := hg.fit (X := ptX z lev) (ex := ptE lev) bX bE
  refine q_C.mono (c_He_countUpTo l K (n := M + 1) (ex := ptE lev) (u := uM (d 0)) (v := vM (d 0)) (c := cM d) (X := ptX z lev) (st := vlo F d M) (F := F) (d := d) hL hbL hx (Or.inl hdj) (by omega) (by omega) hst (by omega) (by rw [hc.2.1]; omega) (by have := hc.1; omega) (fun k hk => (hc.2.2 k (by omega)).1) (fun k hk => (hc.2.2 k (by omega)).2.1) (fun k hk => (hc.2.2 k (by omega)).2.2) hX hex (by omega) f1 hg.cb f2 (uvM (d 0) hd8) f3) (fun r σ' hp => ?_)
  obtain ⟨h1, h2, -, h4⟩ := hp
  refine ⟨h1.trans ?_, by rw [h2, hc.2.1]; omega, h4⟩
  show some (vi (upt F d (M + 1) (vlo F d M) z lev)) = _
  rw [upt_N]
theorem sok_cb : ((List.range 9).all fun m => (List.range 9).all fun n => !(Nat.ble 1 m && Nat.ble 1 n) || sokB m n (fbm n)) = true := by decide +kernel
theorem sok_c (m : Nat) (h1 : m < 9) (h2 : 1 ≤ m) (n : Nat) (h3 : n < 9) (h4 : 1 ≤ n) : sok m n (fbm n) := by
  have a1 := List.all_eq_true.1 sok_cb m (List.mem_range.2 h1)
  have a3 := List.all_eq_true.1 a1 n (List.mem_range.2 h3)
  rw [Bool.or_eq_true] at a3
  rcases a3 with a3 | a3
  · have : (Nat.ble 1 m && Nat.ble 1 n) = true := by
      rw [Bool.and_eq_true]
      exact ⟨Nat.ble_eq_true_of_le h2, Nat.ble_eq_true_of_le h4⟩
    rw [this] at a3
    exact absurd a3 (by decide)
  · exact sokB_ok a3
theorem gch.bzq {P : Nat → Int} {n M : Nat} {F : Nat → Nat → Int} {d : Nat → Nat} (h : gch P n M F d) (hd : 1 ≤ d 0) : df (lk F d 0) (lk F d 1) ∧ ∃ u w, pl u ∧ pl w ∧ ∀ x, u x * lk F d 0 x + w x * lk F d 1 x = 1 := by
  obtain ⟨h1, h2, h3, h4, h5⟩ := h
  rcases h5 with ⟨a1, a2, a3, a4⟩ | ⟨a1, a2, ⟨f, g, hf, hg, a3⟩, a4, a5, a6, a7⟩
  · omega
  · exact (chs_rsx a3 a2 a4 a5 a6).2
