/-! CALLS THAT ARE NOT REFUSED: put, degree -/
set_option maxHeartbeats 4000000 in
set_option maxRecDepth 100000 in
theorem v_La_degree_R (l : Launch) (K : pw_K) (f : pw_F) (xa oa sz d : Nat) (p0 r : Int32) {fs : List Value} (hx0 : f xa = some (.inr (10, fs))) (hM : pw_R l K y_D_degree b_D_degree 2 (some .int) (rmk d 0 0) f [.ref xa, .int p0] sz (some (.int r))) {go : Nat → Int64} (ho : f oa = some (.inl (pE K 1, 1, .inr (.inl go)))) : pw_W l K y_La_degree b_La_degree 4 (some .int) [(0, 9, 12, 13)] (rmk (d + 1) 0 0) f [.ref xa, .int p0, .ref oa] sz (fun v f2 z => v = some (.int 0) ∧ ∃ g2 : Nat → Int64, g2 0 = r.toInt64 ∧ f2 = pw_up f oa (.inl (pE K 1, 1, .inr (.inl g2)))) := by
  refine pw_startW (by decide) (Nat.le_of_ble_eq_true rfl) ?_
  intro p e s m args below meth c ls X htab hr hz hS hl
  have hl : lv_has ls 4 [(0, .ref xa), (1, .int p0), (2, .ref oa)] := hl
  have htb := tb_of htab
  have hZ := X.2.2.2.2.2.2.2.1
  have hx := X.1
  have hb := X.2.1
  generalize s.heap = H0 at hz hS ⊢
  generalize ([] : List Loc) = lc0 at hS ⊢
  refine lv_aload_n hx hb d_La_degree_0 rfl (lv_at hl 2 rfl) ?_
  refine lv_iconst (v := 0) hx hb d_La_degree_1 (by decide) ?_
  refine lv_aload_n hx hb d_La_degree_2 rfl (lv_at hl 0 rfl) ?_
  refine lv_iload_n hx hb d_La_degree_3 rfl (lv_at hl 1 rfl) ?_
  refine pw_callVR X hS (As := [.int p0]) (rest := [.int 0, .ref oa]) hM hz w_cd_D_degree w_ini_D w_ml_La_15 w_im_D_degree w_se_D_degree hx0 rfl hd_D_degree rfl hl.1 (Nat.le_of_ble_eq_true rfl) d_La_degree_4 ⟨by show d + 1 ≤ d + 1; omega, by show 8 + (2 + 11) + 64 * d ≤ 64 * (d + 1); omega⟩ ⟨Nat.le_refl _, Nat.le_refl _⟩ ?_
  refine lv_i2l hx hb d_La_degree_7 rfl ?_
  refine pw_lst X hS ho (vp_in_nI (n := 0) (by decide) (by decide)) d_La_degree_8 (fun H2 lc2 hy hS2 => ?_)
  refine lv_goto (tgt := 15) hx hb d_La_degree_9 (by decide) ?_
  refine lv_iconst (v := 0) hx hb d_La_degree_15 (by decide) ?_
  exact pw_iret X hS2 hr ⟨rfl, _, if_pos rfl, rfl⟩ (Nat.le_refl _) (Nat.le_refl _) d_La_degree_16
set_option maxHeartbeats 4000000 in
set_option maxRecDepth 100000 in
theorem ok_degree {l : Launch} {K : pw_K} {xa : Nat} {f : pw_F} {J : pw_F → Prop} {th wr : Int32} {L Z S G P Ex O T V : Nat → Int32} {go : Nat → Int64} (hdk : dkO K f xa) (hm : mo K f (xa + 617) th wr L Z S G P Ex O T V) (ho : f (xa + 627) = some (.inl (pE K 1, 1, .inr (.inl go)))) (j : Nat) (hj : j < 2) {rd ct sh sr rc dg : Int32} (hhe : heO f (xa + 2 + 177 * j) rd ct sh sr rc) (hpy : pyO f (xa + 2 + 177 * j + 2) dg) (hG : G j = dg)
    (hJ : ∀ (f3 : pw_F) (g2 : Nat → Int64), mo K f3 (xa + 617) 0 wr L Z S G P Ex O T V → f3 (xa + 627) = some (.inl (pE K 1, 1, .inr (.inl g2))) → (∀ q, q ≠ xa + 617 → q ≠ xa + 627 → f3 q = f q) → J f3) : st_degree l K xa (xa + 617) (xa + 627) (nI j) f J := by
  refine ⟨0, fun f2 => ∃ g2 : Nat → Int64, g2 0 = dg.toInt64 ∧ f2 = pw_up f (xa + 627) (.inl (pE K 1, 1, .inr (.inl g2))), ⟨10, 0, 0, ⟨by omega, by omega, by omega⟩, fun sz => ⟨_, v_La_degree_R l K f xa (xa + 627) sz 9 (nI j) dg hdk.1 (r_D_degree l K f xa sz hdk j hj rd ct sh sr rc dg hhe hpy) ho, fun v f2 z h => h⟩⟩, fun f2 h2 => ?_⟩
  obtain ⟨g2, hg2, rfl⟩ := h2
  have hm2 := hm.mv (f' := pw_up f (xa + 627) (.inl (pE K 1, 1, .inr (.inl g2)))) (fun q h1 h2 => pw_up_ne (by omega))
  have hx2 : pw_up f (xa + 627) (.inl (pE K 1, 1, .inr (.inl g2))) xa = _ := (pw_up_ne (by omega)).trans hdk.1
  refine ⟨⟨⟨_, hx2⟩, ⟨th, wr, L, Z, S, G, P, Ex, O, T, V, hm2⟩, ⟨g2, pw_up_self _ _ _⟩⟩, dg, 2, 0, 0, ⟨by omega, by omega, by omega⟩, fun sz => ⟨_, c_Mo_degree_0 l K _ (xa + 617) sz th wr L Z S G P Ex O T V hm2 j hj, fun v f3 z h => ?_⟩⟩
  obtain ⟨h1, -, h3, h4⟩ := h
  have ho3 := (h4 (xa + 627) (by omega)).trans (pw_up_self _ _ _)
  exact ⟨by rw [h1, hG], ⟨_, (h4 xa (by omega)).trans hx2⟩, ⟨wr, L, Z, S, G, P, Ex, O, T, V, h3⟩, ⟨g2, ho3, fun _ => hg2⟩, hJ f3 g2 h3 ho3 (fun q q1 q2 => (h4 q q1).trans (pw_up_ne q2))⟩
set_option maxHeartbeats 4000000 in
set_option maxRecDepth 100000 in
theorem ok_put {l : Launch} {K : pw_K} {xa : Nat} {f : pw_F} {J : pw_F → Prop} {th wr : Int32} {L Z S G P Ex O T V : Nat → Int32} {go : Nat → Int64} (hdk : dkO K f xa) (hm : mo K f (xa + 617) th wr L Z S G P Ex O T V) (ho : f (xa + 627) = some (.inl (pE K 1, 1, .inr (.inl go)))) (j k : Nat) (hj : j < 2) (hk : k < 9) {rd ct sh sr rc : Int32} (gv : Nat → Int32) (v : Int32) (h0 : heO f (xa + 2 + 177 * j) rd ct sh sr rc) (hs : heS K f (xa + 2 + 177 * j) gv) (hG : G j = dI (top (fun i => (gv i).toInt) 9)) (hV : ∀ i, i < 9 → rgV L Z S (9 * j + i) (gv i).toInt)
    (hJ : ∀ (f2 f3 : pw_F) (L' Z' S' : Nat → Int32), heO f2 (xa + 2 + 177 * j) (if gv k = v then rd else 0) ct sh sr rc → heS K f2 (xa + 2 + 177 * j) (upd gv k v) → (∀ q, (q < xa + 2 + 177 * j ∨ xa + 2 + 177 * j + 22 ≤ q) → f2 q = f q) → mo K f3 (xa + 617) 0 wr L' Z' S' (upd G j (dI (top (fun i => (upd gv k v i).toInt) 9))) P Ex O T V → (∀ i, i < 9 → rgV L' Z' S' (9 * j + i) (upd gv k v i).toInt) → rgF (9 * j) (9 * j + 9) L Z S L' Z' S' → (∀ q, (q < xa + 617 ∨ xa + 617 + 10 ≤ q) → f3 q = f2 q) → J f3) : st_put l K xa (xa + 617) (xa + 627) (nI j) (nI k) v f J := by
  refine ⟨0, fun f2 => heO f2 (xa + 2 + 177 * j) (if gv k = v then rd else 0) ct sh sr rc ∧ heS K f2 (xa + 2 + 177 * j) (upd gv k v) ∧ ∀ q, (q < xa + 2 + 177 * j ∨ xa + 2 + 177 * j + 22 ≤ q) → f2 q = f q, ⟨10, 0, 0, ⟨by omega, by omega, by omega⟩, fun sz => ⟨_, v_La_put l K f xa sz 9 0 0 (nI j) (nI k) v hdk.1 (c_D_put l K f xa sz j k hj hk hdk rd ct sh sr rc gv v h0 hs), fun v f2 z h => ⟨h.1, h.2.2⟩⟩⟩, fun f2 h2 => ?_⟩
  obtain ⟨g1, g2, g3⟩ := h2
  have hm2 := hm.mv (f' := f2) (fun q h1 h2 => g3 q (by omega))
  have hx2 := (g3 xa (by omega)).trans hdk.1
  have ho2 := (g3 (xa + 627) (by omega)).trans ho
  refine ⟨⟨⟨_, hx2⟩, ⟨th, wr, L, Z, S, G, P, Ex, O, T, V, hm2⟩, ⟨go, ho2⟩⟩, 4, 0, 0, ⟨by omega, by omega, by omega⟩, fun sz => ⟨_, c_Mo_put_0 l K f2 (xa + 617) sz j k hj hk th wr L Z S G P Ex O T V hm2 gv v hG hV, fun x f3 z h => ?_⟩⟩
  obtain ⟨e1, -, L', Z', S', e2, e3, e4, e5⟩ := h
  exact ⟨e1, go 0, ⟨_, (e5 xa (by omega)).trans hx2⟩, ⟨wr, L', Z', S', _, P, Ex, O, T, V, e2⟩, ⟨go, (e5 (xa + 627) (by omega)).trans ho2, fun _ => rfl⟩, hJ f2 f3 L' Z' S' g1 g2 g3 e2 e3 e4 e5⟩
