/-! FROM THE FRESH WORLD TO A STORE -/
def lyS (f : pw_F) : q_S := fun q j => match f q with
  | some (.inr (_, fs)) => (match fs[j]? with
    | some (.int v) => v.toInt
    | _ => 0)
  | some (.inl (_, _, .inl g)) => (g j).toInt
  | _ => 0
def lyG (t0 t1 : Nat) (c : (Nat × List (Option Nat)) ⊕ (Nat × Nat × Option (Nat → Option Nat))) : Prop := match c with
  | .inl _ => True
  | .inr (t, _, none) => t = t0
  | .inr (t, _, some _) => t = t1
theorem q_fl_inj (s : Nat → Int) : ∀ (fs fs' : List (Option Nat)) (k : Nat), q_fl s k fs = q_fl s k fs' → fs = fs'
  | [], [], _, _ => rfl
  | [], some b :: t, _, h => by simp [q_fl] at h
  | [], none :: t, _, h => by simp [q_fl] at h
  | some b :: t, [], _, h => by simp [q_fl] at h
  | none :: t, [], _, h => by simp [q_fl] at h
  | some b :: t, some b' :: t', k, h => by
    simp only [q_fl, List.cons.injEq, Value.ref.injEq] at h
    rw [h.1, q_fl_inj s t t' (k + 1) h.2]
  | none :: t, none :: t', k, h => by
    simp only [q_fl, List.cons.injEq] at h
    rw [q_fl_inj s t t' (k + 1) h.2]
  | some b :: t, none :: t', k, h => by
    simp only [q_fl, List.cons.injEq, vi] at h
    exact absurd h.1 (by simp)
  | none :: t, some b' :: t', k, h => by
    simp only [q_fl, List.cons.injEq, vi] at h
    exact absurd h.1 (by simp)
theorem q_e_inj {K : pw_K} {σ : q_S} {q t0 t1 : Nat} {c c' : (Nat × List (Option Nat)) ⊕ (Nat × Nat × Option (Nat → Option Nat))} (h : q_e K σ q c = q_e K σ q c') (hg : lyG t0 t1 c) (hg' : lyG t0 t1 c') : c = c' := by
  rcases c with ⟨ci, fs⟩ | ⟨t, n, _ | g⟩ <;> rcases c' with ⟨ci', fs'⟩ | ⟨t', n', _ | g'⟩ <;> simp only [q_e] at h
  · simp only [Sum.inr.injEq, Prod.mk.injEq] at h
    rw [h.1, q_fl_inj _ _ _ _ h.2]
  · simp at h
  · simp at h
  · simp at h
  · simp only [Sum.inl.injEq, Prod.mk.injEq] at h
    rw [show t = t' from (show t = t0 from hg).trans (show t' = t0 from hg').symm, h.2.1]
  · simp at h
  · simp at h
  · simp at h
  · simp only [Sum.inl.injEq, Sum.inr.injEq, Prod.mk.injEq] at h
    rw [show t = t' from (show t = t1 from hg).trans (show t' = t1 from hg').symm, h.2.1, h.2.2]
/-- the layout that a world shows between lo and hi -/
noncomputable def lyL (K : pw_K) (f : pw_F) (T0 T1 : Nat → Nat) (lo hi : Nat) : q_L := fun q => @dite _ ((lo ≤ q ∧ q < hi) ∧ ∃ c, f q = some (q_e K (lyS f) q c) ∧ lyG (T0 q) (T1 q) c) (Classical.propDecidable _) (fun h => some (Classical.choose h.2)) (fun _ => none)
theorem lyL_at {K : pw_K} {f : pw_F} {T0 T1 : Nat → Nat} {lo hi : Nat} : q_at K (lyL K f T0 T1 lo hi) (lyS f) f := by
  intro q c h
  unfold lyL at h
  split at h
  · rename_i h1
    rw [← Option.some.inj h]
    exact (Classical.choose_spec h1.2).1
  · cases h
theorem lyL_eq {K : pw_K} {f : pw_F} {T0 T1 : Nat → Nat} {lo hi q : Nat} {c : (Nat × List (Option Nat)) ⊕ (Nat × Nat × Option (Nat → Option Nat))} (hr : lo ≤ q ∧ q < hi) (h : f q = some (q_e K (lyS f) q c)) (hg : lyG (T0 q) (T1 q) c) : lyL K f T0 T1 lo hi q = some c := by
  have h1 : (lo ≤ q ∧ q < hi) ∧ ∃ c, f q = some (q_e K (lyS f) q c) ∧ lyG (T0 q) (T1 q) c := ⟨hr, c, h, hg⟩
  unfold lyL
  rw [dif_pos h1]
  have h2 := Classical.choose_spec h1.2
  congr 1
  exact q_e_inj (Option.some.inj (h2.1.symm.trans h)) h2.2 hg
theorem lyL_none {K : pw_K} {f : pw_F} {T0 T1 : Nat → Nat} {lo hi q : Nat} (hr : hi ≤ q) : lyL K f T0 T1 lo hi q = none := by
  unfold lyL
  rw [dif_neg (fun h => by have := h.1.2; omega)]
theorem lyS_o {f : pw_F} {q ci : Nat} {fs : List Value} (h : f q = some (.inr (ci, fs))) (j : Nat) {v : Int32} (hj : fs[j]? = some (.int v)) : lyS f q j = v.toInt := by
  unfold lyS
  rw [h]
  simp only [hj]
theorem lyS_a {f : pw_F} {q n : Nat} {ci : ClassId} {g : Nat → Int32} (h : f q = some (.inl (ci, n, .inl g))) (j : Nat) : lyS f q j = (g j).toInt := by
  unfold lyS
  rw [h]
theorem vi_t (v : Int32) : vi v.toInt = .int v := by unfold vi; rw [Int32.ofInt_toInt]
theorem lyA {K : pw_K} {f : pw_F} {q n t : Nat} {g : Nat → Int32} (h : f q = some (.inl (pE K t, n, .inl g))) : f q = some (q_e K (lyS f) q (.inr (t, n, none))) := by
  rw [h]
  simp only [q_e]
  congr 5
  funext j
  rw [lyS_a h, Int32.ofInt_toInt]
theorem lyR {K : pw_K} {f : pw_F} {q n t : Nat} {g : Nat → Option Nat} (h : f q = some (.inl (pE K t, n, .inr (.inr (.inr (.inr g)))))) : f q = some (q_e K (lyS f) q (.inr (t, n, some g))) := h
def t0D (xa q : Nat) : Nat := if q = xa + 613 ∨ q = xa + 614 then 3 else if q = xa + 623 then 2 else 0
def t1D (xa q : Nat) : Nat := if q = xa + 1 then 7 else if q = xa + 154 ∨ q = xa + 331 then 6 else if q = xa + 25 ∨ q = xa + 202 ∨ q = xa + 449 then 5 else 4
section
variable {K : pw_K} {f : pw_F} {xa : Nat}
theorem ly_nL {a w : Nat} (h : zNu K f a w) (hw : w < 1000) (h1 : xa ≤ a) (h2 : a + 2 ≤ xa + 627) (h3 : t0D xa (a + 1) = 0) : nL (lyL K f (t0D xa) (t1D xa) xa (xa + 627)) a w ∧ lyS f a 1 = 0 ∧ lyS f a 2 = 0 := by
  have e1 := lyS_o h.1 1 rfl
  have e2 := lyS_o h.1 2 rfl
  refine ⟨⟨⟨lyL_eq ⟨h1, by omega⟩ ?_ trivial, lyL_eq ⟨by omega, by omega⟩ (lyA h.2) h3.symm⟩, hw⟩, e1, e2⟩
  rw [h.1]
  simp only [q_e, q_fl, e1, e2, vi_t]
theorem ly_pL {a n w : Nat} (h : zPy K f a n w) (hw : w < 1000) (hn : n < 1000) (h1 : xa ≤ a) (h2 : a + 2 + 2 * n ≤ xa + 627) (h3 : ∀ k, k < n → t0D xa (a + 2 + 2 * k + 1) = 0) (h4 : t1D xa (a + 1) = 4) : pL (lyL K f (t0D xa) (t1D xa) xa (xa + 627)) a n w ∧ lyS f a 1 = -1 ∧ ∀ k, k < n → lyS f (a + 2 + 2 * k) 1 = 0 ∧ lyS f (a + 2 + 2 * k) 2 = 0 := by
  obtain ⟨p1, ⟨g, p2, p3⟩, p4⟩ := h
  have e1 := lyS_o p1 1 rfl
  have key := fun k (hk : k < n) => ly_nL (xa := xa) (p4 k hk) hw (by omega) (by omega) (h3 k hk)
  refine ⟨⟨lyL_eq ⟨h1, by omega⟩ ?_ trivial, ⟨g, lyL_eq ⟨by omega, by omega⟩ (lyR p2) h4.symm, p3⟩, fun k hk => (key k hk).1, hn⟩, e1, fun k hk => (key k hk).2⟩
  rw [p1]
  simp only [q_e, q_fl, e1, vi_t]
theorem t0_z {q : Nat} (h1 : q ≠ xa + 613) (h2 : q ≠ xa + 614) (h3 : q ≠ xa + 623) : t0D xa q = 0 := by
  unfold t0D
  rw [if_neg (by omega), if_neg h3]
theorem t1_4 {q : Nat} (h1 : q ≠ xa + 1) (h2 : q ≠ xa + 154) (h3 : q ≠ xa + 331) (h4 : q ≠ xa + 25) (h5 : q ≠ xa + 202) (h6 : q ≠ xa + 449) : t1D xa q = 4 := by
  unfold t1D
  rw [if_neg h1, if_neg (by omega), if_neg (by omega)]
theorem ly_chL {a h : Nat} (hz : zCh K f a h) (hh : h ≤ 16) (h1 : xa ≤ a) (h2 : a + 112 + 2 * h ≤ xa + 612) (h3 : t1D xa (a + 1) = 5) (h4 : ∀ q, a + 2 < q → q < a + 112 + 2 * h → t1D xa q = 4) : chL (lyL K f (t0D xa) (t1D xa) xa (xa + 627)) a h := by
  obtain ⟨p1, ⟨g, p2, p3⟩, p4⟩ := hz
  have e1 := lyS_o p1 1 rfl
  have e2 := lyS_o p1 2 rfl
  refine ⟨lyL_eq ⟨h1, by omega⟩ ?_ trivial, ⟨g, lyL_eq ⟨by omega, by omega⟩ (lyR p2) h3.symm, p3⟩, fun k hk => ?_⟩
  · rw [p1]
    simp only [q_e, q_fl, e1, e2, vi_t]
  · have hc := chO_le h k hk
    exact (ly_pL (p4 k hk) (by decide) (by unfold chN; split <;> omega) (by omega) (by omega) (fun i hi => t0_z (by omega) (by omega) (by omega)) (h4 _ (by omega) (by omega))).1
theorem ly_heL {j : Nat} (hj : j < 2) (hz : zHe K f (xa + 2 + 177 * j)) : heL (lyL K f (t0D xa) (t1D xa) xa (xa + 627)) (xa + 2 + 177 * j) ∧ hin (lyS f) (xa + 2 + 177 * j) (fun _ => 0) := by
  obtain ⟨p1, p2, p3, p4, ⟨g, p5, p6⟩, p7⟩ := hz
  have e4 := lyS_o p1 4 rfl
  have e5 := lyS_o p1 5 rfl
  have e6 := lyS_o p1 6 rfl
  have e7 := lyS_o p1 7 rfl
  have e8 := lyS_o p1 8 rfl
  have q3 := ly_pL (xa := xa) p3 (by decide) (by decide) (by omega) (by omega) (fun i hi => t0_z (by omega) (by omega) (by omega)) (t1_4 (by omega) (by omega) (by omega) (by omega) (by omega) (by omega))
  refine ⟨⟨lyL_eq ⟨by omega, by omega⟩ ?_ trivial, lyL_eq ⟨by omega, by omega⟩ (lyA p2) (t0_z (by omega) (by omega) (by omega)).symm, q3.1, ly_chL p4 (by decide) (by omega) (by omega) ?_ (fun q a1 a2 => t1_4 (by omega) (by omega) (by omega) (by omega) (by omega) (by omega)), ⟨g, lyL_eq ⟨by omega, by omega⟩ (lyR p5) ?_, p6⟩, fun k hk => ?_⟩, ?_, Or.inl e4⟩
  · rw [p1]
    simp only [q_e, q_fl, e4, e5, e6, e7, e8, vi_t]
  · unfold t1D
    rw [if_neg (by omega), if_neg (by omega), if_pos (by omega)]
  · show 6 = t1D xa (xa + 2 + 177 * j + 152)
    unfold t1D
    rw [if_neg (by omega), if_pos (by omega)]
  · have r := p7 k hk
    have f2 := lyS_o r.1 1 rfl
    have f3 := lyS_o r.1 2 rfl
    have f4 := lyS_o r.1 3 rfl
    have f5 := lyS_o r.1 4 rfl
    refine ⟨lyL_eq ⟨by omega, by omega⟩ ?_ trivial, (ly_nL r.2 (by decide) (by omega) (by omega) (t0_z (by omega) (by omega) (by omega))).1⟩
    rw [r.1]
    simp only [q_e, q_fl, f2, f3, f4, f5, vi_t]
  · refine ⟨fun i hi => ⟨0, ⟨(q3.2.2 i hi).1, (q3.2.2 i hi).2, by omega, fun k hk => by omega, rfl⟩, fun h => by omega⟩, fun i hi => ?_, fun i hi => (by show -2147483648 ≤ (0 : Int) ∧ (0 : Int) < 2147483648; decide), fun i hi => rfl, q3.2.1⟩
    rw [lyS_a p2]; rfl
theorem ly_D (hz : zD K f xa) : dL (lyL K f (t0D xa) (t1D xa) xa (xa + 627)) xa ∧ (∀ j, j < 2 → hin (lyS f) (xa + 2 + 177 * j) (fun _ => 0)) ∧ lyS f (xa + 612) 3 = 0 := by
  obtain ⟨p1, ⟨g, p2, p3⟩, p4, p5, p6, p7⟩ := hz
  obtain ⟨b1, b2, b3, b4, b5, b6⟩ := p5
  obtain ⟨c1, c2, c3⟩ := p6
  obtain ⟨d1, d2, d3, d4⟩ := p7
  have nn : ∀ {a w : Nat}, zNu K f a w → w < 1000 → xa ≤ a → a + 2 ≤ xa + 612 → nL (lyL K f (t0D xa) (t1D xa) xa (xa + 627)) a w := fun h hw h1 h2 => (ly_nL h hw h1 (by omega) (t0_z (by omega) (by omega) (by omega))).1
  have e3 := lyS_o d1 3 rfl
  refine ⟨⟨lyL_eq ⟨by omega, by omega⟩ (by rw [p1]; rfl) trivial, ⟨g, lyL_eq ⟨by omega, by omega⟩ (lyR p2) ?_, p3⟩, fun j hj => (ly_heL hj (p4 j hj)).1, ?_, ?_, ?_⟩, fun j hj => (ly_heL hj (p4 j hj)).2, e3⟩
  · show 7 = t1D xa (xa + 1)
    unfold t1D
    rw [if_pos rfl]
  · refine ⟨lyL_eq ⟨by omega, by omega⟩ (by rw [b1]; rfl) trivial, fun k hk => nn (b2 k hk) (by decide) (by omega) (by omega), ?_, ?_, ?_, ?_⟩
    · have f1 := lyS_o b3.1 1 rfl
      exact ⟨lyL_eq ⟨by omega, by omega⟩ (by rw [b3.1]; simp only [q_e, q_fl, f1, vi_t]) trivial, nn b3.2 (by decide) (by omega) (by omega)⟩
    · exact ⟨lyL_eq ⟨by omega, by omega⟩ (by rw [b4.1]; rfl) trivial, nn b4.2.1 (by decide) (by omega) (by omega), nn b4.2.2.1 (by decide) (by omega) (by omega), nn b4.2.2.2.1 (by decide) (by omega) (by omega), nn b4.2.2.2.2 (by decide) (by omega) (by omega)⟩
    · exact (ly_pL b5 (by decide) (by decide) (by omega) (by omega) (fun i hi => t0_z (by omega) (by omega) (by omega)) (t1_4 (by omega) (by omega) (by omega) (by omega) (by omega) (by omega))).1
    · exact (ly_pL b6 (by decide) (by decide) (by omega) (by omega) (fun i hi => t0_z (by omega) (by omega) (by omega)) (t1_4 (by omega) (by omega) (by omega) (by omega) (by omega) (by omega))).1
  · refine ⟨lyL_eq ⟨by omega, by omega⟩ (by rw [c1]; rfl) trivial, ly_chL c2 (by decide) (by omega) (by omega) ?_ (fun q a1 a2 => t1_4 (by omega) (by omega) (by omega) (by omega) (by omega) (by omega)), ?_⟩
    · unfold t1D
      rw [if_neg (by omega), if_neg (by omega), if_pos (by omega)]
    · exact (ly_pL c3 (by decide) (by decide) (by omega) (by omega) (fun i hi => t0_z (by omega) (by omega) (by omega)) (t1_4 (by omega) (by omega) (by omega) (by omega) (by omega) (by omega))).1
  · refine ⟨lyL_eq ⟨by omega, by omega⟩ (by rw [d1]; simp only [q_e, q_fl, e3, vi_t]) trivial, lyL_eq ⟨by omega, by omega⟩ (lyA d2) ?_, lyL_eq ⟨by omega, by omega⟩ (lyA d3) ?_, (ly_nL d4 (by decide) (by omega) (by omega) (t0_z (by omega) (by omega) (by omega))).1⟩
    · show 3 = t0D xa (xa + 612 + 1)
      unfold t0D
      rw [if_pos (by omega)]
    · show 3 = t0D xa (xa + 612 + 2)
      unfold t0D
      rw [if_pos (by omega)]
theorem ly_M {th wr : Int32} {L Z S G P Ex O T V : Nat → Int32} (hm : mo K f (xa + 617) th wr L Z S G P Ex O T V) : mL (lyL K f (t0D xa) (t1D xa) xa (xa + 627)) (xa + 617) ∧ lyS f (xa + 617) 0 = th.toInt ∧ lyS f (xa + 617) 9 = wr.toInt ∧ ∀ j, lyS f (xa + 617 + 4) j = (G j).toInt := by
  obtain ⟨h0, h1, h2, h3, h4, h5, h6, h7, h8, h9⟩ := hm
  have e0 := lyS_o h0 0 rfl
  have e9 := lyS_o h0 9 rfl
  refine ⟨⟨lyL_eq ⟨by omega, by omega⟩ (by rw [h0]; simp only [q_e, q_fl, e0, e9, vi_t]) trivial, lyL_eq ⟨by omega, by omega⟩ (lyA h1) (t0_z (by omega) (by omega) (by omega)).symm, lyL_eq ⟨by omega, by omega⟩ (lyA h2) (t0_z (by omega) (by omega) (by omega)).symm, lyL_eq ⟨by omega, by omega⟩ (lyA h3) (t0_z (by omega) (by omega) (by omega)).symm, lyL_eq ⟨by omega, by omega⟩ (lyA h4) (t0_z (by omega) (by omega) (by omega)).symm, lyL_eq ⟨by omega, by omega⟩ (lyA h5) (t0_z (by omega) (by omega) (by omega)).symm, lyL_eq ⟨by omega, by omega⟩ (lyA h6) ?_, lyL_eq ⟨by omega, by omega⟩ (lyA h7) (t0_z (by omega) (by omega) (by omega)).symm, lyL_eq ⟨by omega, by omega⟩ (lyA h8) (t0_z (by omega) (by omega) (by omega)).symm, lyL_eq ⟨by omega, by omega⟩ (lyA h9) (t0_z (by omega) (by omega) (by omega)).symm⟩, e0, e9, fun j => lyS_a h4 j⟩
  show 2 = t0D xa (xa + 617 + 6)
  unfold t0D
  rw [if_neg (by omega), if_pos (by omega)]
end
/-- what holds between two calls -/
def ivt (σ : q_S) (xa : Nat) (PP : Nat → Nat → Int) : Prop := (∀ j, j < 2 → hin σ (xa + 2 + 177 * j) (PP j) ∧ σ (xa + 617 + 4) j = (top (PP j) 9 : Int) - 1 ∧ ∀ k, k < top (PP j) 9 → rV σ (xa + 617) (9 * j + k) (PP j k)) ∧ ∃ nd : Nat, nd ≤ 128 ∧ σ (xa + 612) 3 = (nd : Int) ∧ σ (xa + 617) 9 = (nd : Int) ∧ ∀ k, k < nd → σ (xa + 613) k = σ (xa + 617 + 8) k ∧ 0 ≤ σ (xa + 613) k ∧ σ (xa + 613) k < 128
def inv (K : pw_K) (xa : Nat) (f : pw_F) : Prop := ∃ (L : q_L) (σ : q_S) (PP : Nat → Nat → Int), lay K L xa σ f ∧ ivt σ xa PP
theorem inv_fresh {K : pw_K} {xa : Nat} {f : pw_F} (h : fresh K xa f) : inv K xa f := by
  obtain ⟨h1, ⟨G, h2, h3⟩, h4⟩ := h
  obtain ⟨a1, a2, a3⟩ := ly_D h1
  obtain ⟨b1, b2, b3, b4⟩ := ly_M h3
  have ht : top (fun _ => (0 : Int)) 9 = 0 := by decide
  refine ⟨lyL K f (t0D xa) (t1D xa) xa (xa + 627), lyS f, fun _ _ => 0, ⟨a1, b1, lyL_none (by omega), lyL_at, _, h4⟩, fun j hj => ⟨a2 j hj, ?_, fun k hk => ?_⟩, 0, by omega, a3, b3, fun k hk => by omega⟩
  · rw [b4 j, h2 j (by omega), ht]; decide
  · rw [ht] at hk; omega
