/-! Held.change, SturmDesk.put -/
/-- what was given, and the polynomial of it -/
def heS (K : pw_K) (f : pw_F) (h : Nat) (gv : Nat → Int32) : Prop := f (h + 1) = some (.inl (pE K 0, 9, .inl gv)) ∧ pyV K f (h + 2) 9 48 (fun j => (gv j).toInt) (top (fun j => (gv j).toInt) 9)
theorem heS.mv {K : pw_K} {f f' : pw_F} {h : Nat} {gv : Nat → Int32} (hs : heS K f h gv) (e : ∀ q, h + 1 ≤ q → q < h + 22 → f' q = f q) : heS K f' h gv := ⟨(e _ (by omega) (by omega)).trans hs.1, hs.2.mv (fun q h1 h2 => e q (by omega) (by omega))⟩
theorem pw_upd_toInt (gv : Nat → Int32) (k : Nat) (v : Int32) (j : Nat) : (upd gv k v j).toInt = if j = k then v.toInt else (gv j).toInt := by
  unfold upd
  split <;> rfl
theorem d_He_change_0 : decode b_He_change 0 = .ok (.aload_n 0, 1) := by decide +kernel
theorem d_He_change_1 : decode b_He_change 1 = .ok (.getfield 9, 3) := by decide +kernel
theorem d_He_change_4 : decode b_He_change 4 = .ok (.iload_n 1, 1) := by decide +kernel
theorem d_He_change_5 : decode b_He_change 5 = .ok (.iaload, 1) := by decide +kernel
theorem d_He_change_6 : decode b_He_change 6 = .ok (.iload_n 2, 1) := by decide +kernel
theorem d_He_change_7 : decode b_He_change 7 = .ok (.if_icmp .ne 4, 3) := by decide +kernel
theorem d_He_change_10 : decode b_He_change 10 = .ok (.return_, 1) := by decide +kernel
theorem d_He_change_11 : decode b_He_change 11 = .ok (.aload_n 0, 1) := by decide +kernel
theorem d_He_change_12 : decode b_He_change 12 = .ok (.getfield 9, 3) := by decide +kernel
theorem d_He_change_15 : decode b_He_change 15 = .ok (.iload_n 1, 1) := by decide +kernel
theorem d_He_change_16 : decode b_He_change 16 = .ok (.iload_n 2, 1) := by decide +kernel
theorem d_He_change_17 : decode b_He_change 17 = .ok (.iastore, 1) := by decide +kernel
theorem d_He_change_18 : decode b_He_change 18 = .ok (.aload_n 0, 1) := by decide +kernel
theorem d_He_change_19 : decode b_He_change 19 = .ok (.getfield 20, 3) := by decide +kernel
theorem d_He_change_22 : decode b_He_change 22 = .ok (.getfield 40, 3) := by decide +kernel
theorem d_He_change_25 : decode b_He_change 25 = .ok (.iload_n 1, 1) := by decide +kernel
theorem d_He_change_26 : decode b_He_change 26 = .ok (.aaload, 1) := by decide +kernel
theorem d_He_change_27 : decode b_He_change 27 = .ok (.iload_n 2, 1) := by decide +kernel
theorem d_He_change_28 : decode b_He_change 28 = .ok (.i2l, 1) := by decide +kernel
theorem d_He_change_29 : decode b_He_change 29 = .ok (.invokevirtual 44, 3) := by decide +kernel
theorem d_He_change_32 : decode b_He_change 32 = .ok (.aload_n 0, 1) := by decide +kernel
theorem d_He_change_33 : decode b_He_change 33 = .ok (.getfield 20, 3) := by decide +kernel
theorem d_He_change_36 : decode b_He_change 36 = .ok (.bipush 8, 2) := by decide +kernel
theorem d_He_change_38 : decode b_He_change 38 = .ok (.invokevirtual 50, 3) := by decide +kernel
theorem d_He_change_41 : decode b_He_change 41 = .ok (.aload_n 0, 1) := by decide +kernel
theorem d_He_change_42 : decode b_He_change 42 = .ok (.iconst 0, 1) := by decide +kernel
theorem d_He_change_43 : decode b_He_change 43 = .ok (.putfield 53, 3) := by decide +kernel
theorem d_He_change_46 : decode b_He_change 46 = .ok (.return_, 1) := by decide +kernel
set_option maxHeartbeats 4000000 in
set_option maxRecDepth 100000 in
theorem c_He_change (l : Launch) (K : pw_K) (f : pw_F) (h sz k : Nat) (hk : k < 9) (rd ct sh sr rc : Int32) (gv : Nat → Int32) (v : Int32) (h0 : heO f h rd ct sh sr rc) (hs : heS K f h gv) : pw_C l K y_He_change b_He_change 3 none (rmk 3 0 0) f [.ref h, .int (nI k), .int v] sz (fun r f2 z => r = none ∧ z = sz ∧ heO f2 h (if gv k = v then rd else 0) ct sh sr rc ∧ heS K f2 h (upd gv k v) ∧ ∀ q, (q < h ∨ h + 22 ≤ q) → f2 q = f q) := by
  refine pw_start (by decide) (Nat.le_of_ble_eq_true rfl) ?_
  intro p e s m args below meth c ls X hr hin hz hS hl
  have hl : lv_has ls 3 [(0, .ref h), (1, .int (nI k)), (2, .int v)] := hl
  have hx := X.1
  have hb := X.2.1
  generalize s.heap = H0 at hz hS ⊢
  generalize ([] : List Loc) = lc0 at hS ⊢
  obtain ⟨g, hg, hgk⟩ := hs.2.2.1
  have hpo : f (h + 2) = some (.inr (2, [.ref (h + 2 + 1), .int (dI (top (fun j => (gv j).toInt) 9))])) := hs.2.1
  refine lv_aload_n hx hb d_He_change_0 rfl (lv_at hl 0 rfl) ?_
  refine pw_get X hS (h0) pc_He 0 (by decide) w_fl_He_9 rfl (v := .ref (h + 1)) rfl d_He_change_1 ?_
  refine lv_iload_n hx hb d_He_change_4 rfl (lv_at hl 1 rfl) ?_
  refine pw_ild X hS (hs.1) (vp_in_nI (by omega) (by omega)) d_He_change_5 ?_
  refine lv_topi (fun yy ey => ?_)
  obtain rfl : yy = gv k := by rw [ey]; rw [nI_clamp (by omega)]
  clear ey
  refine lv_iload_n hx hb d_He_change_6 rfl (lv_at hl 2 rfl) ?_
  refine lv_icmp_ne (tgt := 11) hx hb d_He_change_7 (by decide) (fun cv => ?_) (fun cv => ?_)
  · refine lv_aload_n hx hb d_He_change_11 rfl (lv_at hl 0 rfl) ?_
    refine pw_get X hS (h0) pc_He 0 (by decide) w_fl_He_9 rfl (v := .ref (h + 1)) rfl d_He_change_12 ?_
    refine lv_iload_n hx hb d_He_change_15 rfl (lv_at hl 1 rfl) ?_
    refine lv_iload_n hx hb d_He_change_16 rfl (lv_at hl 2 rfl) ?_
    refine pw_ist X hS (hs.1) (vp_in_nI (by omega) (by omega)) d_He_change_17 (fun H1 lc1 hy1 hS1 => ?_)
    have hz1 := hy1.trans hz; clear hy1 hS hz
    rw [show (nI k).toNatClampNeg = k from nI_clamp (by omega)] at hS1
    replace hS1 : pw_S K (pw_up f (h + 1) (.inl (pE K 0, 9, .inl (upd gv k v)))) _ _ := hS1
    refine lv_aload_n hx hb d_He_change_18 rfl (lv_at hl 0 rfl) ?_
    refine pw_get X hS1 ((pw_up_ne (by omega)).trans (h0)) pc_He 1 (by decide) w_fl_He_20 rfl (v := .ref (h + 2)) rfl d_He_change_19 ?_
    refine pw_get X hS1 ((pw_up_ne (by omega)).trans (hpo)) pc_Py 0 (by decide) w_fl_He_40 rfl (v := .ref (h + 2 + 1)) rfl d_He_change_22 ?_
    refine lv_iload_n hx hb d_He_change_25 rfl (lv_at hl 1 rfl) ?_
    refine pw_ald X hS1 4 rfl ((pw_up_ne (by omega)).trans (hg)) (vp_in_nI (by omega) (by omega)) (b := h + 2 + 2 + 2 * k) (by rw [nI_clamp (by omega)]; exact hgk k hk) d_He_change_26 ?_
    refine lv_iload_n hx hb d_He_change_27 rfl (lv_at hl 2 rfl) ?_
    refine lv_i2l hx hb d_He_change_28 rfl ?_
    obtain ⟨l0, s0, gg, hn0, hn1⟩ := (hs.2.2.2 k hk).c
    refine pw_callV X hS1 (As := [.long (v).toInt64]) (rest := []) (c_Nu_setLong l K (pw_up f (h + 1) (.inl (pE K 0, 9, .inl (upd gv k v)))) (h + 2 + 2 + 2 * k) 48 sz (by decide) (by decide) ((hs.2.2.2 k hk).c.mv (fun q q1 q2 => pw_n1 (by omega))) v.toInt64) hz1 w_cd_Nu_setLong w_ini_Nu w_ml_He_44 w_im_Nu_setLong w_se_Nu_setLong ((pw_up_ne (by omega)).trans (hn0)) rfl hd_Nu_setLong rfl hl.1 (Nat.le_of_ble_eq_true rfl) d_He_change_29 ⟨Nat.le_of_ble_eq_true rfl, Nat.le_of_ble_eq_true rfl⟩ ⟨show 0 + 0 ≤ 0 by omega, show 0 + 0 ≤ 0 by omega⟩ (fun v f1 H2 lc2 hp hS2 => ?_)
    refine W.cs (cells' := 0) (slots' := 0) rfl rfl ?_
    clear hS1 hz1
    obtain ⟨rfl, hz2, hnu, hq1⟩ := hp
    have hB1_0 : f1 (h) = some (.inr (7, [.ref (h + 1), .ref (h + 2), .ref (h + 22), .ref (h + 152), .int rd, .int ct, .int sh, .int sr, .int rc])) := (hq1 _ (by omega) (by omega)).trans ((pw_up_ne (by omega)).trans (h0))
    have hB1_1 : f1 (h + 1) = some (.inl (pE K 0, 9, .inl (upd gv k v))) := (hq1 _ (by omega) (by omega)).trans (pw_up_self _ _ _)
    have hB1_2 : f1 (h + 2) = some (.inr (2, [.ref (h + 2 + 1), .int (dI (top (fun j => (gv j).toInt) 9))])) := (hq1 _ (by omega) (by omega)).trans ((pw_up_ne (by omega)).trans (hpo))
    have hB1_3 : f1 (h + 2 + 1) = some (.inl (pE K 4, 9, .inr (.inr (.inr (.inr g))))) := (hq1 _ (by omega) (by omega)).trans ((pw_up_ne (by omega)).trans (hg))
    refine lv_aload_n hx hb d_He_change_32 rfl (lv_at hl 0 rfl) ?_
    refine pw_get X hS2 (hB1_0) pc_He 1 (by decide) w_fl_He_20 rfl (v := .ref (h + 2)) rfl d_He_change_33 ?_
    refine lv_bipush (v := 8) hx hb d_He_change_36 (by decide) ?_
    refine lv_topi (fun yy ey => ?_)
    obtain rfl : yy = dI 9 := by rw [ey]; decide
    clear ey
    have hnn : ∀ j, j < 9 → nuV K f1 (h + 2 + 2 + 2 * j) 48 ((fun j => (upd gv k v j).toInt) j) := by
      intro j hj
      show nuV K f1 (h + 2 + 2 + 2 * j) 48 (upd gv k v j).toInt
      rw [pw_upd_toInt]
      by_cases ejk : j = k
      · subst ejk; rw [if_pos rfl, ← Int32.toInt_toInt64]; exact hnu
      · rw [if_neg ejk]; exact (hs.2.2.2 j hj).mv (fun q q1 q2 => (hq1 q (by omega) (by omega)).trans (pw_n1 (by omega)))
    refine pw_callV X hS2 (As := [.int (dI 9)]) (rest := []) (c_Py_lower l K f1 (h + 2) 9 48 sz 9 _ (fun j => (upd gv k v j).toInt) (by decide) (Nat.le_refl _) hB1_2 ⟨g, hB1_3, hgk⟩ hnn) hz2 w_cd_Py_lower w_ini_Py w_ml_He_50 w_im_Py_lower w_se_Py_lower (hB1_2) rfl hd_Py_lower rfl hl.1 (Nat.le_of_ble_eq_true rfl) d_He_change_38 ⟨Nat.le_of_ble_eq_true rfl, Nat.le_of_ble_eq_true rfl⟩ ⟨show 0 + 0 ≤ 0 by omega, show 0 + 0 ≤ 0 by omega⟩ (fun v f2 H3 lc3 hp hS3 => ?_)
    refine W.cs (cells' := 0) (slots' := 0) rfl rfl ?_
    clear hS2 hz2
    obtain ⟨rfl, hz3, hpo2, hq2⟩ := hp
    have hB2_0 : f2 (h) = some (.inr (7, [.ref (h + 1), .ref (h + 2), .ref (h + 22), .ref (h + 152), .int rd, .int ct, .int sh, .int sr, .int rc])) := (hq2 _ (by omega)).trans hB1_0
    refine lv_aload_n hx hb d_He_change_41 rfl (lv_at hl 0 rfl) ?_
    refine lv_iconst (v := 0) hx hb d_He_change_42 (by decide) ?_
    refine pw_put X hS3 (v := .int 0) (hB2_0) pc_He 4 (by decide) w_fl_He_53 rfl rfl rfl rfl (Nat.le_of_ble_eq_true rfl) d_He_change_43 (fun H4 lc4 hy4 hS4 => ?_)
    have hz4 := hy4.trans hz3; clear hy4 hS3 hz3
    replace hS4 : pw_S K (pw_up f2 (h) (.inr (7, [.ref (h + 1), .ref (h + 2), .ref (h + 22), .ref (h + 152), .int 0, .int ct, .int sh, .int sr, .int rc]))) _ _ := hS4
    exact pw_vret X hS4 hr ⟨rfl, hz4, by rw [if_neg cv]; exact pw_up_self _ _ _, ⟨(pw_n1 (by omega)).trans ((hq2 _ (by omega)).trans hB1_1), (pw_n1 (by omega)).trans hpo2, ⟨g, (pw_n1 (by omega)).trans ((hq2 _ (by omega)).trans hB1_3), hgk⟩, fun j hj => (hnn j hj).mv (fun q q1 q2 => (pw_n1 (by omega)).trans (hq2 q (by omega)))⟩, fun q hq => (pw_n1 (by omega)).trans ((hq2 q (by omega)).trans ((hq1 q (by omega) (by omega)).trans (pw_n1 (by omega))))⟩ (show 0 ≤ 0 by omega) (show 0 ≤ 0 by omega) d_He_change_46
  · have cv2 : gv k = v := cv
    exact pw_vret X hS hr ⟨rfl, hz, by rw [if_pos cv2]; exact h0, by rw [upd_id cv2]; exact hs, fun q _ => rfl⟩ (show 0 ≤ 0 by omega) (show 0 ≤ 0 by omega) d_He_change_10
set_option maxHeartbeats 4000000 in
set_option maxRecDepth 100000 in
theorem c_D_put (l : Launch) (K : pw_K) (f : pw_F) (a sz j k : Nat) (hj : j < 2) (hk : k < 9) (hdk : dkO K f a) (rd ct sh sr rc : Int32) (gv : Nat → Int32) (v : Int32) (h0 : heO f (a + 2 + 177 * j) rd ct sh sr rc) (hs : heS K f (a + 2 + 177 * j) gv) : pw_C l K y_D_put b_D_put 4 none (rmk 9 0 0) f [.ref a, .int (nI j), .int (nI k), .int v] sz (fun r f2 z => r = none ∧ z = sz ∧ heO f2 (a + 2 + 177 * j) (if gv k = v then rd else 0) ct sh sr rc ∧ heS K f2 (a + 2 + 177 * j) (upd gv k v) ∧ ∀ q, (q < a + 2 + 177 * j ∨ a + 2 + 177 * j + 22 ≤ q) → f2 q = f q) := by
  refine pw_start (by decide) (Nat.le_of_ble_eq_true rfl) ?_
  intro p e s m args below meth c ls X hr hin hz hS hl
  have hl : lv_has ls 4 [(0, .ref a), (1, .int (nI j)), (2, .int (nI k)), (3, .int v)] := hl
  have hx := X.1
  have hb := X.2.1
  generalize s.heap = H0 at hz hS ⊢
  generalize ([] : List Loc) = lc0 at hS ⊢
  obtain ⟨g, hg, hgk⟩ := hdk.2
  refine lv_aload_n hx hb d_D_put_0 rfl (lv_at hl 0 rfl) ?_
  refine lv_iload_n hx hb d_D_put_1 rfl (lv_at hl 1 rfl) ?_
  refine pw_callVR X hS (As := [.int (nI j)]) (rest := []) (r_D_checkPolynomial l K f a sz (nI j) (nI_pos (by omega)) (nI_lt (b := 2) (by omega) (by omega))) hz w_cd_D_checkPolynomial w_ini_D w_ml_D_37 w_im_D_checkPolynomial w_se_D_checkPolynomial (hdk.1) rfl hd_D_checkPolynomial rfl hl.1 (Nat.le_of_ble_eq_true rfl) d_D_put_2 ⟨Nat.le_of_ble_eq_true rfl, Nat.le_of_ble_eq_true rfl⟩ ⟨show 0 ≤ 0 by omega, show 0 ≤ 0 by omega⟩ ?_
  refine lv_iload_n hx hb d_D_put_5 rfl (lv_at hl 2 rfl) ?_
  refine lv_if_lt (tgt := 15) hx hb d_D_put_6 (by decide) (fun cw => absurd cw (nI_pos (by omega))) (fun _ => ?_)
  refine lv_iload_n hx hb d_D_put_9 rfl (lv_at hl 2 rfl) ?_
  refine lv_bipush (v := 9) hx hb d_D_put_10 (by decide) ?_
  refine lv_icmp_lt (tgt := 25) hx hb d_D_put_12 (by decide) (fun _ => ?_) (fun cw => absurd cw (not_not_intro (nI_lt (b := 9) (by omega) (by omega))))
  refine lv_aload_n hx hb d_D_put_25 rfl (lv_at hl 0 rfl) ?_
  refine pw_get X hS (hdk.1) pc_D 0 (by decide) w_fl_D_11 rfl (v := .ref (a + 1)) rfl d_D_put_26 ?_
  refine lv_iload_n hx hb d_D_put_29 rfl (lv_at hl 1 rfl) ?_
  refine pw_ald X hS 7 rfl (hg) (vp_in_nI (by omega) (by omega)) (b := a + 2 + 177 * j) (by rw [nI_clamp (by omega)]; exact hgk j hj) d_D_put_30 ?_
  refine lv_iload_n hx hb d_D_put_31 rfl (lv_at hl 2 rfl) ?_
  refine lv_iload_n hx hb d_D_put_32 rfl (lv_at hl 3 rfl) ?_
  refine pw_callV X hS (As := [.int (nI k), .int v]) (rest := []) (c_He_change l K f (a + 2 + 177 * j) sz k hk rd ct sh sr rc gv v h0 hs) hz w_cd_He_change w_ini_He w_ml_D_48 w_im_He_change w_se_He_change (h0) rfl hd_He_change rfl hl.1 (Nat.le_of_ble_eq_true rfl) d_D_put_33 ⟨Nat.le_of_ble_eq_true rfl, Nat.le_of_ble_eq_true rfl⟩ ⟨show 0 + 0 ≤ 0 by omega, show 0 + 0 ≤ 0 by omega⟩ (fun v f1 H1 lc1 hp hS1 => ?_)
  refine W.cs (cells' := 0) (slots' := 0) rfl rfl ?_
  clear hS hz
  obtain ⟨rfl, hz1, hp2⟩ := hp
  exact pw_vret X hS1 hr ⟨rfl, hz1, hp2⟩ (show 0 ≤ 0 by omega) (show 0 ≤ 0 by omega) d_D_put_36
