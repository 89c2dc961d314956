/-! THE REFERENCE: the calls that it refuses -/
theorem i64_lt (x y : Int32) : x.toInt64 < y.toInt64 ↔ x < y := by rw [Int64.lt_iff_toInt_lt, Int32.lt_iff_toInt_lt, Int32.toInt_toInt64, Int32.toInt_toInt64]
theorem i64_le (x y : Int32) : x.toInt64 ≤ y.toInt64 ↔ x ≤ y := by rw [Int64.le_iff_toInt_le, Int32.le_iff_toInt_le, Int32.toInt_toInt64, Int32.toInt_toInt64]
theorem iOk {x : Int32} {h : Int64} {h2 : Int32} (e : h = h2.toInt64) (a : ¬ x < 0) (b : x ≤ h2) : ¬ x.toInt64 < 0 ∧ ¬ h < x.toInt64 := by
  subst e
  refine ⟨fun q => a ?_, fun q => ?_⟩
  · exact (i64_lt x 0).mp q
  · have := (i64_lt h2 x).mp q
    rw [Int32.lt_iff_toInt_lt] at this
    rw [Int32.le_iff_toInt_le] at b
    omega
theorem iBad {x : Int32} {h : Int64} {h2 : Int32} (e : h = h2.toInt64) (a : x < 0 ∨ ¬ x ≤ h2) : x.toInt64 < 0 ∨ h < x.toInt64 := by
  subst e
  rcases a with a | a
  · exact Or.inl ((i64_lt x 0).mpr a)
  · refine Or.inr ((i64_lt h2 x).mpr ?_)
    rw [Int32.le_iff_toInt_le] at a
    rw [Int32.lt_iff_toInt_lt]
    omega
theorem p_le {x : Int32} : x < 2 ↔ x ≤ 1 := by rw [Int32.lt_iff_toInt_lt, Int32.le_iff_toInt_le, show (2 : Int32).toInt = 2 from rfl, show (1 : Int32).toInt = 1 from rfl]; omega
theorem jand1 {j : Nat} (hj : j < 2) : nI j &&& 1 = nI j := by
  have h : j = 0 ∨ j = 1 := by omega
  rcases h with rfl | rfl <;> decide
abbrev moQ (K : pw_K) (f : pw_F) (a : Nat) (cd wr : Int32) (L Z S G P Ex O T V : Nat → Int32) (sz : Nat) (r : Option Value) : Option Value → pw_F → Nat → Prop := fun v f2 z => v = r ∧ z = sz ∧ mo K f2 a cd wr L Z S G P Ex O T V ∧ ∀ q, q ≠ a → f2 q = f q
theorem d_Mo_thrown_0 : decode b_Mo_thrown 0 = .ok (.aload_n 0, 1) := by decide +kernel
theorem d_Mo_thrown_1 : decode b_Mo_thrown 1 = .ok (.getfield 39, 3) := by decide +kernel
theorem d_Mo_thrown_4 : decode b_Mo_thrown 4 = .ok (.ireturn, 1) := by decide +kernel
theorem d_Mo_fails_0 : decode b_Mo_fails 0 = .ok (.aload_n 0, 1) := by decide +kernel
theorem d_Mo_fails_1 : decode b_Mo_fails 1 = .ok (.iload_n 1, 1) := by decide +kernel
theorem d_Mo_fails_2 : decode b_Mo_fails 2 = .ok (.ifCond .eq 7, 3) := by decide +kernel
theorem d_Mo_fails_5 : decode b_Mo_fails 5 = .ok (.iload_n 2, 1) := by decide +kernel
theorem d_Mo_fails_6 : decode b_Mo_fails 6 = .ok (.goto 4, 3) := by decide +kernel
theorem d_Mo_fails_9 : decode b_Mo_fails 9 = .ok (.iconst 0, 1) := by decide +kernel
theorem d_Mo_fails_10 : decode b_Mo_fails 10 = .ok (.putfield 39, 3) := by decide +kernel
theorem d_Mo_fails_13 : decode b_Mo_fails 13 = .ok (.iload_n 1, 1) := by decide +kernel
theorem d_Mo_fails_14 : decode b_Mo_fails 14 = .ok (.ireturn, 1) := by decide +kernel
theorem d_Mo_in_0 : decode b_Mo_in 0 = .ok (.lload_n 0, 1) := by decide +kernel
theorem d_Mo_in_1 : decode b_Mo_in 1 = .ok (.lload_n 2, 1) := by decide +kernel
theorem d_Mo_in_2 : decode b_Mo_in 2 = .ok (.lcmp, 1) := by decide +kernel
theorem d_Mo_in_3 : decode b_Mo_in 3 = .ok (.ifCond .lt 14, 3) := by decide +kernel
theorem d_Mo_in_6 : decode b_Mo_in 6 = .ok (.lload_n 0, 1) := by decide +kernel
theorem d_Mo_in_7 : decode b_Mo_in 7 = .ok (.lload 4, 2) := by decide +kernel
theorem d_Mo_in_9 : decode b_Mo_in 9 = .ok (.lcmp, 1) := by decide +kernel
theorem d_Mo_in_10 : decode b_Mo_in 10 = .ok (.ifCond .gt 7, 3) := by decide +kernel
theorem d_Mo_in_13 : decode b_Mo_in 13 = .ok (.iconst 1, 1) := by decide +kernel
theorem d_Mo_in_14 : decode b_Mo_in 14 = .ok (.goto 4, 3) := by decide +kernel
theorem d_Mo_in_17 : decode b_Mo_in 17 = .ok (.iconst 0, 1) := by decide +kernel
theorem d_Mo_in_18 : decode b_Mo_in 18 = .ok (.ireturn, 1) := by decide +kernel
set_option maxHeartbeats 4000000 in
set_option maxRecDepth 100000 in
theorem r_Mo_thrown (l : Launch) (K : pw_K) (f : pw_F) (a sz : Nat) (th wr : Int32) (L Z S G P Ex O T V : Nat → Int32) (hm : mo K f a th wr L Z S G P Ex O T V) : pw_R l K y_Mo_thrown b_Mo_thrown 1 (some .int) (rmk 1 0 0) f [.ref a] sz (some (.int th)) := by
  refine pw_startR (by decide) (Nat.le_of_ble_eq_true rfl) ?_
  intro p e s m args below meth c ls X hr hz hS hl
  have hl : lv_has ls 1 [(0, .ref a)] := hl
  have hx := X.1
  have hb := X.2.1
  refine lv_aload_n hx hb d_Mo_thrown_0 rfl (lv_at hl 0 rfl) ?_
  refine pw_get X hS (hm.1) pc_Mo 0 (by decide) w_fl_Mo_39 rfl (v := .int th) rfl d_Mo_thrown_1 ?_
  exact pw_iretR X hr d_Mo_thrown_4
set_option maxHeartbeats 4000000 in
set_option maxRecDepth 100000 in
theorem c_Mo_fails (l : Launch) (K : pw_K) (f : pw_F) (a sz : Nat) (th wr : Int32) (L Z S G P Ex O T V : Nat → Int32) (hm : mo K f a th wr L Z S G P Ex O T V) (bd cd cx : Int32) (hbd : (bd = 0 ∧ cx = 0) ∨ (bd = 1 ∧ cx = cd)) : pw_C l K y_Mo_fails b_Mo_fails 3 (some .boolean) (rmk 1 0 0) f [.ref a, .int bd, .int cd] sz (moQ K f a cx wr L Z S G P Ex O T V sz (some (.int bd))) := by
  refine pw_start (by decide) (Nat.le_of_ble_eq_true rfl) ?_
  intro p e s m args below meth c ls X hr hin hz hS hl
  have hl : lv_has ls 3 [(0, .ref a), (1, .int bd), (2, .int cd)] := hl
  have hx := X.1
  have hb := X.2.1
  generalize s.heap = H0 at hz hS ⊢
  generalize ([] : List Loc) = lc0 at hS ⊢
  refine lv_aload_n hx hb d_Mo_fails_0 rfl (lv_at hl 0 rfl) ?_
  refine lv_iload_n hx hb d_Mo_fails_1 rfl (lv_at hl 1 rfl) ?_
  refine lv_if_eq (tgt := 9) hx hb d_Mo_fails_2 (by decide) (fun c1 => ?_) (fun c1 => ?_)
  · have ecx : cx = 0 := hbd.elim (fun q => q.2) (fun q => absurd (q.1.symm.trans c1) (by decide))
    have ebd : bd = 0 := c1
    rw [ecx]
    refine lv_iconst (v := 0) hx hb d_Mo_fails_9 (by decide) ?_
    refine pw_put X hS (v := .int 0) (hm.1) pc_Mo 0 (by decide) w_fl_Mo_39 rfl rfl rfl rfl (Nat.le_of_ble_eq_true rfl) d_Mo_fails_10 (fun H1 lc1 hy1 hS1 => ?_)
    have hz1 := hy1.trans hz; clear hy1 hS hz
    replace hS1 : pw_S K (pw_up f (a) (.inr (11, [.int 0, .ref (a + 1), .ref (a + 2), .ref (a + 3), .ref (a + 4), .ref (a + 5), .ref (a + 6), .ref (a + 7), .ref (a + 8), .int wr, .ref (a + 9)]))) _ _ := hS1
    refine lv_iload_n hx hb d_Mo_fails_13 rfl (lv_at hl 1 rfl) ?_
    exact pw_zret X hS1 hr (by rw [ebd]; rfl) ⟨rfl, hz1, hm.uo, fun q hq => pw_n1 hq⟩ (show 0 ≤ 0 by omega) (show 0 ≤ 0 by omega) d_Mo_fails_14
  · have ecx : cx = cd := hbd.elim (fun q => absurd q.1 c1) (fun q => q.2)
    have ebd : bd = 1 := hbd.elim (fun q => absurd q.1 c1) (fun q => q.1)
    rw [ecx]
    refine lv_iload_n hx hb d_Mo_fails_5 rfl (lv_at hl 2 rfl) ?_
    refine lv_goto (tgt := 10) hx hb d_Mo_fails_6 (by decide) ?_
    refine pw_put X hS (v := .int cd) (hm.1) pc_Mo 0 (by decide) w_fl_Mo_39 rfl rfl rfl rfl (Nat.le_of_ble_eq_true rfl) d_Mo_fails_10 (fun H1 lc1 hy1 hS1 => ?_)
    have hz1 := hy1.trans hz; clear hy1 hS hz
    replace hS1 : pw_S K (pw_up f (a) (.inr (11, [.int cd, .ref (a + 1), .ref (a + 2), .ref (a + 3), .ref (a + 4), .ref (a + 5), .ref (a + 6), .ref (a + 7), .ref (a + 8), .int wr, .ref (a + 9)]))) _ _ := hS1
    refine lv_iload_n hx hb d_Mo_fails_13 rfl (lv_at hl 1 rfl) ?_
    exact pw_zret X hS1 hr (by rw [ebd]; rfl) ⟨rfl, hz1, hm.uo, fun q hq => pw_n1 hq⟩ (show 0 ≤ 0 by omega) (show 0 ≤ 0 by omega) d_Mo_fails_14
set_option maxHeartbeats 4000000 in
set_option maxRecDepth 100000 in
theorem r_Mo_in1 (l : Launch) (K : pw_K) (f : pw_F) (sz : Nat) (v lo hi : Int64) (h : ¬ v < lo ∧ ¬ hi < v) : pw_R l K y_Mo_in b_Mo_in 6 (some .boolean) (rmk 1 0 0) f [.long v, .long lo, .long hi] sz (some (.int 1)) := by
  refine pw_startR (by decide) (Nat.le_of_ble_eq_true rfl) ?_
  intro p e s m args below meth c ls X hr hz hS hl
  have hl : lv_has ls 6 [(0, .long v), (2, .long lo), (4, .long hi)] := hl
  have hx := X.1
  have hb := X.2.1
  refine lv_lload_n hx hb d_Mo_in_0 rfl (lv_at hl 0 rfl) ?_
  refine lv_lload_n hx hb d_Mo_in_1 rfl (lv_at hl 1 rfl) ?_
  refine W.lcmp hx hb d_Mo_in_2 ?_
  refine lv_if_lt (tgt := 17) hx hb d_Mo_in_3 (by decide) (fun cw => absurd cw (fun z => h.1 ((lg_cmp_lt v lo).mp z))) (fun _ => ?_)
  refine lv_lload_n hx hb d_Mo_in_6 rfl (lv_at hl 0 rfl) ?_
  refine lv_lload hx hb d_Mo_in_7 (lv_at hl 2 rfl) ?_
  refine W.lcmp hx hb d_Mo_in_9 ?_
  refine lv_if_gt (tgt := 17) hx hb d_Mo_in_10 (by decide) (fun cw => absurd cw (fun z => h.2 ((lg_cmp_gt v hi).mp z))) (fun _ => ?_)
  refine lv_iconst (v := 1) hx hb d_Mo_in_13 (by decide) ?_
  refine lv_goto (tgt := 18) hx hb d_Mo_in_14 (by decide) ?_
  exact pw_zretR X hr rfl d_Mo_in_18
set_option maxHeartbeats 4000000 in
set_option maxRecDepth 100000 in
theorem r_Mo_in0 (l : Launch) (K : pw_K) (f : pw_F) (sz : Nat) (v lo hi : Int64) (h : v < lo ∨ hi < v) : pw_R l K y_Mo_in b_Mo_in 6 (some .boolean) (rmk 1 0 0) f [.long v, .long lo, .long hi] sz (some (.int 0)) := by
  refine pw_startR (by decide) (Nat.le_of_ble_eq_true rfl) ?_
  intro p e s m args below meth c ls X hr hz hS hl
  have hl : lv_has ls 6 [(0, .long v), (2, .long lo), (4, .long hi)] := hl
  have hx := X.1
  have hb := X.2.1
  refine lv_lload_n hx hb d_Mo_in_0 rfl (lv_at hl 0 rfl) ?_
  refine lv_lload_n hx hb d_Mo_in_1 rfl (lv_at hl 1 rfl) ?_
  refine W.lcmp hx hb d_Mo_in_2 ?_
  refine lv_if_lt (tgt := 17) hx hb d_Mo_in_3 (by decide) (fun c1 => ?_) (fun c1 => ?_)
  · refine lv_iconst (v := 0) hx hb d_Mo_in_17 (by decide) ?_
    exact pw_zretR X hr rfl d_Mo_in_18
  · refine lv_lload_n hx hb d_Mo_in_6 rfl (lv_at hl 0 rfl) ?_
    refine lv_lload hx hb d_Mo_in_7 (lv_at hl 2 rfl) ?_
    refine W.lcmp hx hb d_Mo_in_9 ?_
    refine lv_if_gt (tgt := 17) hx hb d_Mo_in_10 (by decide) (fun _ => ?_) (fun cw => absurd cw (not_not_intro ((lg_cmp_gt v hi).mpr (h.elim (fun q => absurd ((lg_cmp_lt v lo).mpr q) c1) (fun q => q)))))
    refine lv_iconst (v := 0) hx hb d_Mo_in_17 (by decide) ?_
    exact pw_zretR X hr rfl d_Mo_in_18
theorem d_Mo_degree_0 : decode b_Mo_degree 0 = .ok (.aload_n 0, 1) := by decide +kernel
theorem d_Mo_degree_1 : decode b_Mo_degree 1 = .ok (.iload_n 1, 1) := by decide +kernel
theorem d_Mo_degree_2 : decode b_Mo_degree 2 = .ok (.i2l, 1) := by decide +kernel
theorem d_Mo_degree_3 : decode b_Mo_degree 3 = .ok (.lconst 0, 1) := by decide +kernel
theorem d_Mo_degree_4 : decode b_Mo_degree 4 = .ok (.lconst 1, 1) := by decide +kernel
theorem d_Mo_degree_5 : decode b_Mo_degree 5 = .ok (.invokestatic 140, 3) := by decide +kernel
theorem d_Mo_degree_8 : decode b_Mo_degree 8 = .ok (.ifCond .ne 7, 3) := by decide +kernel
theorem d_Mo_degree_11 : decode b_Mo_degree 11 = .ok (.iconst 1, 1) := by decide +kernel
theorem d_Mo_degree_12 : decode b_Mo_degree 12 = .ok (.goto 4, 3) := by decide +kernel
theorem d_Mo_degree_15 : decode b_Mo_degree 15 = .ok (.iconst 0, 1) := by decide +kernel
theorem d_Mo_degree_16 : decode b_Mo_degree 16 = .ok (.iconst 1, 1) := by decide +kernel
theorem d_Mo_degree_17 : decode b_Mo_degree 17 = .ok (.invokevirtual 146, 3) := by decide +kernel
theorem d_Mo_degree_20 : decode b_Mo_degree 20 = .ok (.ifCond .eq 7, 3) := by decide +kernel
theorem d_Mo_degree_23 : decode b_Mo_degree 23 = .ok (.iconst 0, 1) := by decide +kernel
theorem d_Mo_degree_24 : decode b_Mo_degree 24 = .ok (.goto 9, 3) := by decide +kernel
theorem d_Mo_degree_27 : decode b_Mo_degree 27 = .ok (.aload_n 0, 1) := by decide +kernel
theorem d_Mo_degree_28 : decode b_Mo_degree 28 = .ok (.getfield 20, 3) := by decide +kernel
theorem d_Mo_degree_31 : decode b_Mo_degree 31 = .ok (.iload_n 1, 1) := by decide +kernel
theorem d_Mo_degree_32 : decode b_Mo_degree 32 = .ok (.iaload, 1) := by decide +kernel
theorem d_Mo_degree_33 : decode b_Mo_degree 33 = .ok (.ireturn, 1) := by decide +kernel
set_option maxHeartbeats 4000000 in
set_option maxRecDepth 100000 in
theorem c_Mo_degree_1 (l : Launch) (K : pw_K) (f : pw_F) (a sz : Nat) (th wr : Int32) (L Z S G P Ex O T V : Nat → Int32) (hm : mo K f a th wr L Z S G P Ex O T V) (p0 : Int32) (hc : p0 < 0 ∨ ¬ p0 < 2) : pw_C l K y_Mo_degree b_Mo_degree 2 (some .int) (rmk 2 0 0) f [.ref a, .int p0] sz (moQ K f a 1 wr L Z S G P Ex O T V sz (some (.int 0))) := by
  refine pw_start (by decide) (Nat.le_of_ble_eq_true rfl) ?_
  intro p e s m args below meth c ls X hr hin hz hS hl
  have hl : lv_has ls 2 [(0, .ref a), (1, .int p0)] := hl
  have hx := X.1
  have hb := X.2.1
  generalize s.heap = H0 at hz hS ⊢
  generalize ([] : List Loc) = lc0 at hS ⊢
  refine lv_aload_n hx hb d_Mo_degree_0 rfl (lv_at hl 0 rfl) ?_
  refine lv_iload_n hx hb d_Mo_degree_1 rfl (lv_at hl 1 rfl) ?_
  refine lv_i2l hx hb d_Mo_degree_2 rfl ?_
  refine lv_lconst (v := 0) hx hb d_Mo_degree_3 (by decide) ?_
  refine lv_lconst (v := 1) hx hb d_Mo_degree_4 (by decide) ?_
  refine pw_callSR X hS (As := [.long (p0).toInt64, .long 0, .long 1]) (rest := [.ref a]) (r_Mo_in0 l K f sz p0.toInt64 0 1 (iBad (h2 := 1) (by decide) (hc.elim Or.inl (fun q => Or.inr (fun z => q (p_le.mpr z)))))) hz w_cd_Mo_in w_ini_Mo w_ml_Mo_140 w_st_Mo_in hd_Mo_in rfl hl.1 (Nat.le_of_ble_eq_true rfl) d_Mo_degree_5 ⟨Nat.le_of_ble_eq_true rfl, Nat.le_of_ble_eq_true rfl⟩ ⟨show 0 ≤ 0 by omega, show 0 ≤ 0 by omega⟩ ?_
  refine lv_if_ne (tgt := 15) hx hb d_Mo_degree_8 (by decide) (fun cw => absurd cw (by decide)) (fun _ => ?_)
  refine lv_iconst (v := 1) hx hb d_Mo_degree_11 (by decide) ?_
  refine lv_goto (tgt := 16) hx hb d_Mo_degree_12 (by decide) ?_
  refine lv_iconst (v := 1) hx hb d_Mo_degree_16 (by decide) ?_
  refine pw_callV X hS (As := [.int 1, .int 1]) (rest := []) (c_Mo_fails l K f a sz th wr L Z S G P Ex O T V hm 1 1 1 (by decide)) hz w_cd_Mo_fails w_ini_Mo w_ml_Mo_146 w_im_Mo_fails w_se_Mo_fails (hm.1) rfl hd_Mo_fails rfl hl.1 (Nat.le_of_ble_eq_true rfl) d_Mo_degree_17 ⟨Nat.le_of_ble_eq_true rfl, Nat.le_of_ble_eq_true rfl⟩ ⟨show 0 + 0 ≤ 0 by omega, show 0 + 0 ≤ 0 by omega⟩ (fun v f1 H1 lc1 hp hS1 => ?_)
  refine W.cs (cells' := 0) (slots' := 0) rfl rfl ?_
  clear hS hz
  obtain ⟨rfl, hz1, hm1, hq1⟩ := hp
  refine lv_if_eq (tgt := 27) hx hb d_Mo_degree_20 (by decide) (fun cw => absurd cw (by decide)) (fun _ => ?_)
  refine lv_iconst (v := 0) hx hb d_Mo_degree_23 (by decide) ?_
  refine lv_goto (tgt := 33) hx hb d_Mo_degree_24 (by decide) ?_
  exact pw_iret X hS1 hr ⟨rfl, hz1, hm1, hq1⟩ (show 0 ≤ 0 by omega) (show 0 ≤ 0 by omega) d_Mo_degree_33
set_option maxHeartbeats 4000000 in
set_option maxRecDepth 100000 in
theorem c_Mo_degree_0 (l : Launch) (K : pw_K) (f : pw_F) (a sz : Nat) (th wr : Int32) (L Z S G P Ex O T V : Nat → Int32) (hm : mo K f a th wr L Z S G P Ex O T V) (j : Nat) (hj : j < 2) : pw_C l K y_Mo_degree b_Mo_degree 2 (some .int) (rmk 2 0 0) f [.ref a, .int (nI j)] sz (moQ K f a 0 wr L Z S G P Ex O T V sz (some (.int (G j)))) := by
  refine pw_start (by decide) (Nat.le_of_ble_eq_true rfl) ?_
  intro p e s m args below meth c ls X hr hin hz hS hl
  have hl : lv_has ls 2 [(0, .ref a), (1, .int (nI j))] := hl
  have hx := X.1
  have hb := X.2.1
  generalize s.heap = H0 at hz hS ⊢
  generalize ([] : List Loc) = lc0 at hS ⊢
  refine lv_aload_n hx hb d_Mo_degree_0 rfl (lv_at hl 0 rfl) ?_
  refine lv_iload_n hx hb d_Mo_degree_1 rfl (lv_at hl 1 rfl) ?_
  refine lv_i2l hx hb d_Mo_degree_2 rfl ?_
  refine lv_lconst (v := 0) hx hb d_Mo_degree_3 (by decide) ?_
  refine lv_lconst (v := 1) hx hb d_Mo_degree_4 (by decide) ?_
  refine pw_callSR X hS (As := [.long ((nI j)).toInt64, .long 0, .long 1]) (rest := [.ref a]) (r_Mo_in1 l K f sz ((nI j).toInt64) 0 1 (iOk (h2 := 1) (by decide) (nI_pos (by omega)) (nI_le (b := 1) (by omega) (by omega)))) hz w_cd_Mo_in w_ini_Mo w_ml_Mo_140 w_st_Mo_in hd_Mo_in rfl hl.1 (Nat.le_of_ble_eq_true rfl) d_Mo_degree_5 ⟨Nat.le_of_ble_eq_true rfl, Nat.le_of_ble_eq_true rfl⟩ ⟨show 0 ≤ 0 by omega, show 0 ≤ 0 by omega⟩ ?_
  refine lv_if_ne (tgt := 15) hx hb d_Mo_degree_8 (by decide) (fun _ => ?_) (fun cw => absurd cw (by decide))
  refine lv_iconst (v := 0) hx hb d_Mo_degree_15 (by decide) ?_
  refine lv_iconst (v := 1) hx hb d_Mo_degree_16 (by decide) ?_
  refine pw_callV X hS (As := [.int 0, .int 1]) (rest := []) (c_Mo_fails l K f a sz th wr L Z S G P Ex O T V hm 0 1 0 (by decide)) hz w_cd_Mo_fails w_ini_Mo w_ml_Mo_146 w_im_Mo_fails w_se_Mo_fails (hm.1) rfl hd_Mo_fails rfl hl.1 (Nat.le_of_ble_eq_true rfl) d_Mo_degree_17 ⟨Nat.le_of_ble_eq_true rfl, Nat.le_of_ble_eq_true rfl⟩ ⟨show 0 + 0 ≤ 0 by omega, show 0 + 0 ≤ 0 by omega⟩ (fun v f1 H1 lc1 hp hS1 => ?_)
  refine W.cs (cells' := 0) (slots' := 0) rfl rfl ?_
  clear hS hz
  obtain ⟨rfl, hz1, hm1, hq1⟩ := hp
  refine lv_if_eq (tgt := 27) hx hb d_Mo_degree_20 (by decide) (fun _ => ?_) (fun cw => absurd cw (by decide))
  refine lv_aload_n hx hb d_Mo_degree_27 rfl (lv_at hl 0 rfl) ?_
  refine pw_get X hS1 (hm1.1) pc_Mo 4 (by decide) w_fl_Mo_20 rfl (v := .ref (a + 4)) rfl d_Mo_degree_28 ?_
  refine lv_iload_n hx hb d_Mo_degree_31 rfl (lv_at hl 1 rfl) ?_
  refine pw_ild X hS1 (hm1.2.2.2.2.1) (vp_in_nI (by omega) (by omega)) d_Mo_degree_32 ?_
  refine lv_topi (fun yy ey => ?_)
  obtain rfl : yy = G j := by rw [ey]; rw [nI_clamp (by omega)]
  clear ey
  exact pw_iret X hS1 hr ⟨rfl, hz1, hm1, hq1⟩ (show 0 ≤ 0 by omega) (show 0 ≤ 0 by omega) d_Mo_degree_33
theorem d_Mo_stops_0 : decode b_Mo_stops 0 = .ok (.aload_n 0, 1) := by decide +kernel
theorem d_Mo_stops_1 : decode b_Mo_stops 1 = .ok (.iload_n 1, 1) := by decide +kernel
theorem d_Mo_stops_2 : decode b_Mo_stops 2 = .ok (.i2l, 1) := by decide +kernel
theorem d_Mo_stops_3 : decode b_Mo_stops 3 = .ok (.lconst 0, 1) := by decide +kernel
theorem d_Mo_stops_4 : decode b_Mo_stops 4 = .ok (.lconst 1, 1) := by decide +kernel
theorem d_Mo_stops_5 : decode b_Mo_stops 5 = .ok (.invokestatic 140, 3) := by decide +kernel
theorem d_Mo_stops_8 : decode b_Mo_stops 8 = .ok (.ifCond .eq 7, 3) := by decide +kernel
theorem d_Mo_stops_11 : decode b_Mo_stops 11 = .ok (.iload_n 2, 1) := by decide +kernel
theorem d_Mo_stops_12 : decode b_Mo_stops 12 = .ok (.ifCond .ne 7, 3) := by decide +kernel
theorem d_Mo_stops_15 : decode b_Mo_stops 15 = .ok (.iconst 1, 1) := by decide +kernel
theorem d_Mo_stops_16 : decode b_Mo_stops 16 = .ok (.goto 4, 3) := by decide +kernel
theorem d_Mo_stops_19 : decode b_Mo_stops 19 = .ok (.iconst 0, 1) := by decide +kernel
theorem d_Mo_stops_20 : decode b_Mo_stops 20 = .ok (.iconst 1, 1) := by decide +kernel
theorem d_Mo_stops_21 : decode b_Mo_stops 21 = .ok (.invokevirtual 146, 3) := by decide +kernel
theorem d_Mo_stops_24 : decode b_Mo_stops 24 = .ok (.ifCond .ne 27, 3) := by decide +kernel
theorem d_Mo_stops_27 : decode b_Mo_stops 27 = .ok (.aload_n 0, 1) := by decide +kernel
theorem d_Mo_stops_28 : decode b_Mo_stops 28 = .ok (.aload_n 0, 1) := by decide +kernel
theorem d_Mo_stops_29 : decode b_Mo_stops 29 = .ok (.getfield 20, 3) := by decide +kernel
theorem d_Mo_stops_32 : decode b_Mo_stops 32 = .ok (.iload_n 1, 1) := by decide +kernel
theorem d_Mo_stops_33 : decode b_Mo_stops 33 = .ok (.iconst 1, 1) := by decide +kernel
theorem d_Mo_stops_34 : decode b_Mo_stops 34 = .ok (.iand, 1) := by decide +kernel
theorem d_Mo_stops_35 : decode b_Mo_stops 35 = .ok (.iaload, 1) := by decide +kernel
theorem d_Mo_stops_36 : decode b_Mo_stops 36 = .ok (.ifCond .ge 7, 3) := by decide +kernel
theorem d_Mo_stops_39 : decode b_Mo_stops 39 = .ok (.iconst 1, 1) := by decide +kernel
theorem d_Mo_stops_40 : decode b_Mo_stops 40 = .ok (.goto 4, 3) := by decide +kernel
theorem d_Mo_stops_43 : decode b_Mo_stops 43 = .ok (.iconst 0, 1) := by decide +kernel
theorem d_Mo_stops_44 : decode b_Mo_stops 44 = .ok (.iconst 2, 1) := by decide +kernel
theorem d_Mo_stops_45 : decode b_Mo_stops 45 = .ok (.invokevirtual 146, 3) := by decide +kernel
theorem d_Mo_stops_48 : decode b_Mo_stops 48 = .ok (.ifCond .eq 5, 3) := by decide +kernel
theorem d_Mo_stops_51 : decode b_Mo_stops 51 = .ok (.iconst 1, 1) := by decide +kernel
theorem d_Mo_stops_52 : decode b_Mo_stops 52 = .ok (.ireturn, 1) := by decide +kernel
theorem d_Mo_stops_53 : decode b_Mo_stops 53 = .ok (.aload_n 0, 1) := by decide +kernel
theorem d_Mo_stops_54 : decode b_Mo_stops 54 = .ok (.iload_n 1, 1) := by decide +kernel
theorem d_Mo_stops_55 : decode b_Mo_stops 55 = .ok (.invokevirtual 150, 3) := by decide +kernel
theorem d_Mo_stops_58 : decode b_Mo_stops 58 = .ok (.iconst 0, 1) := by decide +kernel
theorem d_Mo_stops_59 : decode b_Mo_stops 59 = .ok (.ireturn, 1) := by decide +kernel
set_option maxHeartbeats 4000000 in
set_option maxRecDepth 100000 in
theorem c_Mo_stops_1 (l : Launch) (K : pw_K) (f : pw_F) (a sz : Nat) (th wr : Int32) (L Z S G P Ex O T V : Nat → Int32) (hm : mo K f a th wr L Z S G P Ex O T V) (p0 gd : Int32) (hc : (p0 < 0 ∨ ¬ p0 < 2) ∨ ((¬ p0 < 0 ∧ p0 < 2) ∧ gd = 0)) : pw_C l K y_Mo_stops b_Mo_stops 3 (some .boolean) (rmk 2 0 0) f [.ref a, .int p0, .int gd] sz (moQ K f a 1 wr L Z S G P Ex O T V sz (some (.int 1))) := by
  refine pw_start (by decide) (Nat.le_of_ble_eq_true rfl) ?_
  intro p e s m args below meth c ls X hr hin hz hS hl
  have hl : lv_has ls 3 [(0, .ref a), (1, .int p0), (2, .int gd)] := hl
  have hx := X.1
  have hb := X.2.1
  generalize s.heap = H0 at hz hS ⊢
  generalize ([] : List Loc) = lc0 at hS ⊢
  refine lv_aload_n hx hb d_Mo_stops_0 rfl (lv_at hl 0 rfl) ?_
  refine lv_iload_n hx hb d_Mo_stops_1 rfl (lv_at hl 1 rfl) ?_
  refine lv_i2l hx hb d_Mo_stops_2 rfl ?_
  refine lv_lconst (v := 0) hx hb d_Mo_stops_3 (by decide) ?_
  refine lv_lconst (v := 1) hx hb d_Mo_stops_4 (by decide) ?_
  rcases hc with hc | hc
  · refine pw_callSR X hS (As := [.long (p0).toInt64, .long 0, .long 1]) (rest := [.ref a]) (r_Mo_in0 l K f sz p0.toInt64 0 1 (iBad (h2 := 1) (by decide) (hc.elim Or.inl (fun q => Or.inr (fun z => q (p_le.mpr z)))))) hz w_cd_Mo_in w_ini_Mo w_ml_Mo_140 w_st_Mo_in hd_Mo_in rfl hl.1 (Nat.le_of_ble_eq_true rfl) d_Mo_stops_5 ⟨Nat.le_of_ble_eq_true rfl, Nat.le_of_ble_eq_true rfl⟩ ⟨show 0 ≤ 0 by omega, show 0 ≤ 0 by omega⟩ ?_
    refine lv_if_eq (tgt := 15) hx hb d_Mo_stops_8 (by decide) (fun _ => ?_) (fun cw => absurd cw (by decide))
    refine lv_iconst (v := 1) hx hb d_Mo_stops_15 (by decide) ?_
    refine lv_goto (tgt := 20) hx hb d_Mo_stops_16 (by decide) ?_
    refine lv_iconst (v := 1) hx hb d_Mo_stops_20 (by decide) ?_
    refine pw_callV X hS (As := [.int 1, .int 1]) (rest := []) (c_Mo_fails l K f a sz th wr L Z S G P Ex O T V hm 1 1 1 (by decide)) hz w_cd_Mo_fails w_ini_Mo w_ml_Mo_146 w_im_Mo_fails w_se_Mo_fails (hm.1) rfl hd_Mo_fails rfl hl.1 (Nat.le_of_ble_eq_true rfl) d_Mo_stops_21 ⟨Nat.le_of_ble_eq_true rfl, Nat.le_of_ble_eq_true rfl⟩ ⟨show 0 + 0 ≤ 0 by omega, show 0 + 0 ≤ 0 by omega⟩ (fun v f1 H1 lc1 hp hS1 => ?_)
    refine W.cs (cells' := 0) (slots' := 0) rfl rfl ?_
    clear hS hz
    obtain ⟨rfl, hz1, hm1, hq1⟩ := hp
    refine lv_if_ne (tgt := 51) hx hb d_Mo_stops_24 (by decide) (fun _ => ?_) (fun cw => absurd cw (by decide))
    refine lv_iconst (v := 1) hx hb d_Mo_stops_51 (by decide) ?_
    exact pw_zret X hS1 hr rfl ⟨rfl, hz1, hm1, hq1⟩ (show 0 ≤ 0 by omega) (show 0 ≤ 0 by omega) d_Mo_stops_52
  · refine pw_callSR X hS (As := [.long (p0).toInt64, .long 0, .long 1]) (rest := [.ref a]) (r_Mo_in1 l K f sz p0.toInt64 0 1 (iOk (h2 := 1) (by decide) hc.1.1 (p_le.mp hc.1.2))) hz w_cd_Mo_in w_ini_Mo w_ml_Mo_140 w_st_Mo_in hd_Mo_in rfl hl.1 (Nat.le_of_ble_eq_true rfl) d_Mo_stops_5 ⟨Nat.le_of_ble_eq_true rfl, Nat.le_of_ble_eq_true rfl⟩ ⟨show 0 ≤ 0 by omega, show 0 ≤ 0 by omega⟩ ?_
    refine lv_if_eq (tgt := 15) hx hb d_Mo_stops_8 (by decide) (fun cw => absurd cw (by decide)) (fun _ => ?_)
    refine lv_iload_n hx hb d_Mo_stops_11 rfl (lv_at hl 2 rfl) ?_
    refine lv_if_ne (tgt := 19) hx hb d_Mo_stops_12 (by decide) (fun cw => absurd cw (not_not_intro hc.2)) (fun _ => ?_)
    refine lv_iconst (v := 1) hx hb d_Mo_stops_15 (by decide) ?_
    refine lv_goto (tgt := 20) hx hb d_Mo_stops_16 (by decide) ?_
    refine lv_iconst (v := 1) hx hb d_Mo_stops_20 (by decide) ?_
    refine pw_callV X hS (As := [.int 1, .int 1]) (rest := []) (c_Mo_fails l K f a sz th wr L Z S G P Ex O T V hm 1 1 1 (by decide)) hz w_cd_Mo_fails w_ini_Mo w_ml_Mo_146 w_im_Mo_fails w_se_Mo_fails (hm.1) rfl hd_Mo_fails rfl hl.1 (Nat.le_of_ble_eq_true rfl) d_Mo_stops_21 ⟨Nat.le_of_ble_eq_true rfl, Nat.le_of_ble_eq_true rfl⟩ ⟨show 0 + 0 ≤ 0 by omega, show 0 + 0 ≤ 0 by omega⟩ (fun v f1 H1 lc1 hp hS1 => ?_)
    refine W.cs (cells' := 0) (slots' := 0) rfl rfl ?_
    clear hS hz
    obtain ⟨rfl, hz1, hm1, hq1⟩ := hp
    refine lv_if_ne (tgt := 51) hx hb d_Mo_stops_24 (by decide) (fun _ => ?_) (fun cw => absurd cw (by decide))
    refine lv_iconst (v := 1) hx hb d_Mo_stops_51 (by decide) ?_
    exact pw_zret X hS1 hr rfl ⟨rfl, hz1, hm1, hq1⟩ (show 0 ≤ 0 by omega) (show 0 ≤ 0 by omega) d_Mo_stops_52
set_option maxHeartbeats 4000000 in
set_option maxRecDepth 100000 in
theorem c_Mo_stops_2 (l : Launch) (K : pw_K) (f : pw_F) (a sz : Nat) (th wr : Int32) (L Z S G P Ex O T V : Nat → Int32) (hm : mo K f a th wr L Z S G P Ex O T V) (j : Nat) (hj : j < 2) (hdg : G j < 0) : pw_C l K y_Mo_stops b_Mo_stops 3 (some .boolean) (rmk 2 0 0) f [.ref a, .int (nI j), .int 1] sz (moQ K f a 2 wr L Z S G P Ex O T V sz (some (.int 1))) := by
  refine pw_start (by decide) (Nat.le_of_ble_eq_true rfl) ?_
  intro p e s m args below meth c ls X hr hin hz hS hl
  have hl : lv_has ls 3 [(0, .ref a), (1, .int (nI j)), (2, .int 1)] := hl
  have hx := X.1
  have hb := X.2.1
  generalize s.heap = H0 at hz hS ⊢
  generalize ([] : List Loc) = lc0 at hS ⊢
  refine lv_aload_n hx hb d_Mo_stops_0 rfl (lv_at hl 0 rfl) ?_
  refine lv_iload_n hx hb d_Mo_stops_1 rfl (lv_at hl 1 rfl) ?_
  refine lv_i2l hx hb d_Mo_stops_2 rfl ?_
  refine lv_lconst (v := 0) hx hb d_Mo_stops_3 (by decide) ?_
  refine lv_lconst (v := 1) hx hb d_Mo_stops_4 (by decide) ?_
  refine pw_callSR X hS (As := [.long ((nI j)).toInt64, .long 0, .long 1]) (rest := [.ref a]) (r_Mo_in1 l K f sz ((nI j).toInt64) 0 1 (iOk (h2 := 1) (by decide) (nI_pos (by omega)) (nI_le (b := 1) (by omega) (by omega)))) hz w_cd_Mo_in w_ini_Mo w_ml_Mo_140 w_st_Mo_in hd_Mo_in rfl hl.1 (Nat.le_of_ble_eq_true rfl) d_Mo_stops_5 ⟨Nat.le_of_ble_eq_true rfl, Nat.le_of_ble_eq_true rfl⟩ ⟨show 0 ≤ 0 by omega, show 0 ≤ 0 by omega⟩ ?_
  refine lv_if_eq (tgt := 15) hx hb d_Mo_stops_8 (by decide) (fun cw => absurd cw (by decide)) (fun _ => ?_)
  refine lv_iload_n hx hb d_Mo_stops_11 rfl (lv_at hl 2 rfl) ?_
  refine lv_if_ne (tgt := 19) hx hb d_Mo_stops_12 (by decide) (fun _ => ?_) (fun cw => absurd cw (by decide))
  refine lv_iconst (v := 0) hx hb d_Mo_stops_19 (by decide) ?_
  refine lv_iconst (v := 1) hx hb d_Mo_stops_20 (by decide) ?_
  refine pw_callV X hS (As := [.int 0, .int 1]) (rest := []) (c_Mo_fails l K f a sz th wr L Z S G P Ex O T V hm 0 1 0 (by decide)) hz w_cd_Mo_fails w_ini_Mo w_ml_Mo_146 w_im_Mo_fails w_se_Mo_fails (hm.1) rfl hd_Mo_fails rfl hl.1 (Nat.le_of_ble_eq_true rfl) d_Mo_stops_21 ⟨Nat.le_of_ble_eq_true rfl, Nat.le_of_ble_eq_true rfl⟩ ⟨show 0 + 0 ≤ 0 by omega, show 0 + 0 ≤ 0 by omega⟩ (fun v f1 H1 lc1 hp hS1 => ?_)
  refine W.cs (cells' := 0) (slots' := 0) rfl rfl ?_
  clear hS hz
  obtain ⟨rfl, hz1, hm1, hq1⟩ := hp
  refine lv_if_ne (tgt := 51) hx hb d_Mo_stops_24 (by decide) (fun cw => absurd cw (by decide)) (fun _ => ?_)
  refine lv_aload_n hx hb d_Mo_stops_27 rfl (lv_at hl 0 rfl) ?_
  refine lv_aload_n hx hb d_Mo_stops_28 rfl (lv_at hl 0 rfl) ?_
  refine pw_get X hS1 (hm1.1) pc_Mo 4 (by decide) w_fl_Mo_20 rfl (v := .ref (a + 4)) rfl d_Mo_stops_29 ?_
  refine lv_iload_n hx hb d_Mo_stops_32 rfl (lv_at hl 1 rfl) ?_
  refine lv_iconst (v := 1) hx hb d_Mo_stops_33 (by decide) ?_
  refine lv_iand hx hb d_Mo_stops_34 ?_
  refine lv_topi (fun yy ey => ?_)
  obtain rfl : yy = nI j := by rw [ey]; exact jand1 hj
  clear ey
  refine pw_ild X hS1 (hm1.2.2.2.2.1) (vp_in_nI (by omega) (by omega)) d_Mo_stops_35 ?_
  refine lv_topi (fun yy ey => ?_)
  obtain rfl : yy = G j := by rw [ey]; rw [nI_clamp (by omega)]
  clear ey
  refine lv_if_ge (tgt := 43) hx hb d_Mo_stops_36 (by decide) (fun cw => absurd cw (Int32.not_le.mpr hdg)) (fun _ => ?_)
  refine lv_iconst (v := 1) hx hb d_Mo_stops_39 (by decide) ?_
  refine lv_goto (tgt := 44) hx hb d_Mo_stops_40 (by decide) ?_
  refine lv_iconst (v := 2) hx hb d_Mo_stops_44 (by decide) ?_
  refine pw_callV X hS1 (As := [.int 1, .int 2]) (rest := []) (c_Mo_fails l K f1 a sz 0 wr L Z S G P Ex O T V hm1 1 2 2 (by decide)) hz1 w_cd_Mo_fails w_ini_Mo w_ml_Mo_146 w_im_Mo_fails w_se_Mo_fails (hm1.1) rfl hd_Mo_fails rfl hl.1 (Nat.le_of_ble_eq_true rfl) d_Mo_stops_45 ⟨Nat.le_of_ble_eq_true rfl, Nat.le_of_ble_eq_true rfl⟩ ⟨show 0 + 0 ≤ 0 by omega, show 0 + 0 ≤ 0 by omega⟩ (fun v f2 H2 lc2 hp hS2 => ?_)
  refine W.cs (cells' := 0) (slots' := 0) rfl rfl ?_
  clear hS1 hz1
  obtain ⟨rfl, hz2, hm2, hq2⟩ := hp
  refine lv_if_eq (tgt := 53) hx hb d_Mo_stops_48 (by decide) (fun cw => absurd cw (by decide)) (fun _ => ?_)
  refine lv_iconst (v := 1) hx hb d_Mo_stops_51 (by decide) ?_
  exact pw_zret X hS2 hr rfl ⟨rfl, hz2, hm2, fun q hq => (hq2 q hq).trans (hq1 q hq)⟩ (show 0 ≤ 0 by omega) (show 0 ≤ 0 by omega) d_Mo_stops_52
theorem d_Mo_roots_0 : decode b_Mo_roots 0 = .ok (.aload_n 0, 1) := by decide +kernel
theorem d_Mo_roots_1 : decode b_Mo_roots 1 = .ok (.iload_n 1, 1) := by decide +kernel
theorem d_Mo_roots_2 : decode b_Mo_roots 2 = .ok (.iconst 1, 1) := by decide +kernel
theorem d_Mo_roots_3 : decode b_Mo_roots 3 = .ok (.invokevirtual 153, 3) := by decide +kernel
theorem d_Mo_roots_6 : decode b_Mo_roots 6 = .ok (.ifCond .eq 7, 3) := by decide +kernel
theorem d_Mo_roots_9 : decode b_Mo_roots 9 = .ok (.iconst 0, 1) := by decide +kernel
theorem d_Mo_roots_10 : decode b_Mo_roots 10 = .ok (.goto 9, 3) := by decide +kernel
theorem d_Mo_roots_13 : decode b_Mo_roots 13 = .ok (.aload_n 0, 1) := by decide +kernel
theorem d_Mo_roots_14 : decode b_Mo_roots 14 = .ok (.getfield 30, 3) := by decide +kernel
theorem d_Mo_roots_17 : decode b_Mo_roots 17 = .ok (.iload_n 1, 1) := by decide +kernel
theorem d_Mo_roots_18 : decode b_Mo_roots 18 = .ok (.iaload, 1) := by decide +kernel
theorem d_Mo_roots_19 : decode b_Mo_roots 19 = .ok (.ireturn, 1) := by decide +kernel
theorem d_Mo_repeated_0 : decode b_Mo_repeated 0 = .ok (.aload_n 0, 1) := by decide +kernel
theorem d_Mo_repeated_1 : decode b_Mo_repeated 1 = .ok (.iload_n 1, 1) := by decide +kernel
theorem d_Mo_repeated_2 : decode b_Mo_repeated 2 = .ok (.iconst 1, 1) := by decide +kernel
theorem d_Mo_repeated_3 : decode b_Mo_repeated 3 = .ok (.invokevirtual 153, 3) := by decide +kernel
theorem d_Mo_repeated_6 : decode b_Mo_repeated 6 = .ok (.ifCond .ne 12, 3) := by decide +kernel
theorem d_Mo_repeated_9 : decode b_Mo_repeated 9 = .ok (.aload_n 0, 1) := by decide +kernel
theorem d_Mo_repeated_10 : decode b_Mo_repeated 10 = .ok (.getfield 20, 3) := by decide +kernel
theorem d_Mo_repeated_13 : decode b_Mo_repeated 13 = .ok (.iload_n 1, 1) := by decide +kernel
theorem d_Mo_repeated_14 : decode b_Mo_repeated 14 = .ok (.iaload, 1) := by decide +kernel
theorem d_Mo_repeated_15 : decode b_Mo_repeated 15 = .ok (.ifCond .ne 7, 3) := by decide +kernel
theorem d_Mo_repeated_18 : decode b_Mo_repeated 18 = .ok (.iconst 0, 1) := by decide +kernel
theorem d_Mo_repeated_19 : decode b_Mo_repeated 19 = .ok (.goto 18, 3) := by decide +kernel
theorem d_Mo_repeated_22 : decode b_Mo_repeated 22 = .ok (.aload_n 0, 1) := by decide +kernel
theorem d_Mo_repeated_23 : decode b_Mo_repeated 23 = .ok (.getfield 20, 3) := by decide +kernel
theorem d_Mo_repeated_26 : decode b_Mo_repeated 26 = .ok (.iload_n 1, 1) := by decide +kernel
theorem d_Mo_repeated_27 : decode b_Mo_repeated 27 = .ok (.iaload, 1) := by decide +kernel
theorem d_Mo_repeated_28 : decode b_Mo_repeated 28 = .ok (.aload_n 0, 1) := by decide +kernel
theorem d_Mo_repeated_29 : decode b_Mo_repeated 29 = .ok (.getfield 20, 3) := by decide +kernel
theorem d_Mo_repeated_32 : decode b_Mo_repeated 32 = .ok (.iconst 2, 1) := by decide +kernel
theorem d_Mo_repeated_33 : decode b_Mo_repeated 33 = .ok (.iload_n 1, 1) := by decide +kernel
theorem d_Mo_repeated_34 : decode b_Mo_repeated 34 = .ok (.iadd, 1) := by decide +kernel
theorem d_Mo_repeated_35 : decode b_Mo_repeated 35 = .ok (.iaload, 1) := by decide +kernel
theorem d_Mo_repeated_36 : decode b_Mo_repeated 36 = .ok (.isub, 1) := by decide +kernel
theorem d_Mo_repeated_37 : decode b_Mo_repeated 37 = .ok (.ireturn, 1) := by decide +kernel
theorem d_Mo_sign_0 : decode b_Mo_sign 0 = .ok (.aload_n 0, 1) := by decide +kernel
theorem d_Mo_sign_1 : decode b_Mo_sign 1 = .ok (.iload_n 1, 1) := by decide +kernel
theorem d_Mo_sign_2 : decode b_Mo_sign 2 = .ok (.i2l, 1) := by decide +kernel
theorem d_Mo_sign_3 : decode b_Mo_sign 3 = .ok (.lconst 0, 1) := by decide +kernel
theorem d_Mo_sign_4 : decode b_Mo_sign 4 = .ok (.lconst 1, 1) := by decide +kernel
theorem d_Mo_sign_5 : decode b_Mo_sign 5 = .ok (.invokestatic 140, 3) := by decide +kernel
theorem d_Mo_sign_8 : decode b_Mo_sign 8 = .ok (.ifCond .eq 16, 3) := by decide +kernel
theorem d_Mo_sign_11 : decode b_Mo_sign 11 = .ok (.iload 4, 2) := by decide +kernel
theorem d_Mo_sign_13 : decode b_Mo_sign 13 = .ok (.i2l, 1) := by decide +kernel
theorem d_Mo_sign_14 : decode b_Mo_sign 14 = .ok (.lconst 0, 1) := by decide +kernel
theorem d_Mo_sign_15 : decode b_Mo_sign 15 = .ok (.ldc2_w 157, 3) := by decide +kernel
theorem d_Mo_sign_18 : decode b_Mo_sign 18 = .ok (.invokestatic 140, 3) := by decide +kernel
theorem d_Mo_sign_21 : decode b_Mo_sign 21 = .ok (.ifCond .ne 7, 3) := by decide +kernel
theorem d_Mo_sign_24 : decode b_Mo_sign 24 = .ok (.iconst 1, 1) := by decide +kernel
theorem d_Mo_sign_25 : decode b_Mo_sign 25 = .ok (.goto 4, 3) := by decide +kernel
theorem d_Mo_sign_28 : decode b_Mo_sign 28 = .ok (.iconst 0, 1) := by decide +kernel
theorem d_Mo_sign_29 : decode b_Mo_sign 29 = .ok (.iconst 1, 1) := by decide +kernel
theorem d_Mo_sign_30 : decode b_Mo_sign 30 = .ok (.invokevirtual 146, 3) := by decide +kernel
theorem d_Mo_sign_33 : decode b_Mo_sign 33 = .ok (.ifCond .ne 27, 3) := by decide +kernel
theorem d_Mo_sign_36 : decode b_Mo_sign 36 = .ok (.aload_n 0, 1) := by decide +kernel
theorem d_Mo_sign_37 : decode b_Mo_sign 37 = .ok (.aload_n 0, 1) := by decide +kernel
theorem d_Mo_sign_38 : decode b_Mo_sign 38 = .ok (.getfield 20, 3) := by decide +kernel
theorem d_Mo_sign_41 : decode b_Mo_sign 41 = .ok (.iload_n 1, 1) := by decide +kernel
theorem d_Mo_sign_42 : decode b_Mo_sign 42 = .ok (.iconst 1, 1) := by decide +kernel
theorem d_Mo_sign_43 : decode b_Mo_sign 43 = .ok (.iand, 1) := by decide +kernel
theorem d_Mo_sign_44 : decode b_Mo_sign 44 = .ok (.iaload, 1) := by decide +kernel
theorem d_Mo_sign_45 : decode b_Mo_sign 45 = .ok (.ifCond .ge 7, 3) := by decide +kernel
theorem d_Mo_sign_48 : decode b_Mo_sign 48 = .ok (.iconst 1, 1) := by decide +kernel
theorem d_Mo_sign_49 : decode b_Mo_sign 49 = .ok (.goto 4, 3) := by decide +kernel
theorem d_Mo_sign_52 : decode b_Mo_sign 52 = .ok (.iconst 0, 1) := by decide +kernel
theorem d_Mo_sign_53 : decode b_Mo_sign 53 = .ok (.iconst 2, 1) := by decide +kernel
theorem d_Mo_sign_54 : decode b_Mo_sign 54 = .ok (.invokevirtual 146, 3) := by decide +kernel
theorem d_Mo_sign_57 : decode b_Mo_sign 57 = .ok (.ifCond .eq 5, 3) := by decide +kernel
theorem d_Mo_sign_60 : decode b_Mo_sign 60 = .ok (.iconst 0, 1) := by decide +kernel
theorem d_Mo_sign_61 : decode b_Mo_sign 61 = .ok (.ireturn, 1) := by decide +kernel
theorem d_Mo_sign_62 : decode b_Mo_sign 62 = .ok (.aload_n 0, 1) := by decide +kernel
theorem d_Mo_sign_63 : decode b_Mo_sign 63 = .ok (.bipush 112, 2) := by decide +kernel
theorem d_Mo_sign_65 : decode b_Mo_sign 65 = .ok (.lload_n 2, 1) := by decide +kernel
theorem d_Mo_sign_66 : decode b_Mo_sign 66 = .ok (.invokevirtual 72, 3) := by decide +kernel
theorem d_Mo_sign_69 : decode b_Mo_sign 69 = .ok (.aload_n 0, 1) := by decide +kernel
theorem d_Mo_sign_70 : decode b_Mo_sign 70 = .ok (.iload_n 1, 1) := by decide +kernel
theorem d_Mo_sign_71 : decode b_Mo_sign 71 = .ok (.bipush 112, 2) := by decide +kernel
theorem d_Mo_sign_73 : decode b_Mo_sign 73 = .ok (.iload 4, 2) := by decide +kernel
theorem d_Mo_sign_75 : decode b_Mo_sign 75 = .ok (.invokevirtual 131, 3) := by decide +kernel
theorem d_Mo_sign_78 : decode b_Mo_sign 78 = .ok (.ireturn, 1) := by decide +kernel
theorem d_Mo_between_0 : decode b_Mo_between 0 = .ok (.aload_n 0, 1) := by decide +kernel
theorem d_Mo_between_1 : decode b_Mo_between 1 = .ok (.iload_n 1, 1) := by decide +kernel
theorem d_Mo_between_2 : decode b_Mo_between 2 = .ok (.iload 4, 2) := by decide +kernel
theorem d_Mo_between_4 : decode b_Mo_between 4 = .ok (.i2l, 1) := by decide +kernel
theorem d_Mo_between_5 : decode b_Mo_between 5 = .ok (.lconst 0, 1) := by decide +kernel
theorem d_Mo_between_6 : decode b_Mo_between 6 = .ok (.ldc2_w 157, 3) := by decide +kernel
theorem d_Mo_between_9 : decode b_Mo_between 9 = .ok (.invokestatic 140, 3) := by decide +kernel
theorem d_Mo_between_12 : decode b_Mo_between 12 = .ok (.ifCond .eq 20, 3) := by decide +kernel
theorem d_Mo_between_15 : decode b_Mo_between 15 = .ok (.iload 7, 2) := by decide +kernel
theorem d_Mo_between_17 : decode b_Mo_between 17 = .ok (.i2l, 1) := by decide +kernel
theorem d_Mo_between_18 : decode b_Mo_between 18 = .ok (.lconst 0, 1) := by decide +kernel
theorem d_Mo_between_19 : decode b_Mo_between 19 = .ok (.ldc2_w 157, 3) := by decide +kernel
theorem d_Mo_between_22 : decode b_Mo_between 22 = .ok (.invokestatic 140, 3) := by decide +kernel
theorem d_Mo_between_25 : decode b_Mo_between 25 = .ok (.ifCond .eq 7, 3) := by decide +kernel
theorem d_Mo_between_28 : decode b_Mo_between 28 = .ok (.iconst 1, 1) := by decide +kernel
theorem d_Mo_between_29 : decode b_Mo_between 29 = .ok (.goto 4, 3) := by decide +kernel
theorem d_Mo_between_32 : decode b_Mo_between 32 = .ok (.iconst 0, 1) := by decide +kernel
theorem d_Mo_between_33 : decode b_Mo_between 33 = .ok (.invokevirtual 153, 3) := by decide +kernel
theorem d_Mo_between_36 : decode b_Mo_between 36 = .ok (.ifCond .eq 5, 3) := by decide +kernel
theorem d_Mo_between_39 : decode b_Mo_between 39 = .ok (.iconst 0, 1) := by decide +kernel
theorem d_Mo_between_40 : decode b_Mo_between 40 = .ok (.ireturn, 1) := by decide +kernel
theorem d_Mo_between_41 : decode b_Mo_between 41 = .ok (.iconst 0, 1) := by decide +kernel
theorem d_Mo_between_42 : decode b_Mo_between 42 = .ok (.istore 8, 2) := by decide +kernel
theorem d_Mo_between_44 : decode b_Mo_between 44 = .ok (.iconst 0, 1) := by decide +kernel
theorem d_Mo_between_45 : decode b_Mo_between 45 = .ok (.istore 9, 2) := by decide +kernel
theorem d_Mo_between_47 : decode b_Mo_between 47 = .ok (.iload 9, 2) := by decide +kernel
theorem d_Mo_between_49 : decode b_Mo_between 49 = .ok (.aload_n 0, 1) := by decide +kernel
theorem d_Mo_between_50 : decode b_Mo_between 50 = .ok (.getfield 30, 3) := by decide +kernel
theorem d_Mo_between_53 : decode b_Mo_between 53 = .ok (.iload_n 1, 1) := by decide +kernel
theorem d_Mo_between_54 : decode b_Mo_between 54 = .ok (.iaload, 1) := by decide +kernel
theorem d_Mo_between_55 : decode b_Mo_between 55 = .ok (.if_icmp .ge 46, 3) := by decide +kernel
theorem d_Mo_between_58 : decode b_Mo_between 58 = .ok (.iload 8, 2) := by decide +kernel
theorem d_Mo_between_60 : decode b_Mo_between 60 = .ok (.aload_n 0, 1) := by decide +kernel
theorem d_Mo_between_61 : decode b_Mo_between 61 = .ok (.iload_n 1, 1) := by decide +kernel
theorem d_Mo_between_62 : decode b_Mo_between 62 = .ok (.iload 9, 2) := by decide +kernel
theorem d_Mo_between_64 : decode b_Mo_between 64 = .ok (.lload_n 2, 1) := by decide +kernel
theorem d_Mo_between_65 : decode b_Mo_between 65 = .ok (.iload 4, 2) := by decide +kernel
theorem d_Mo_between_67 : decode b_Mo_between 67 = .ok (.invokevirtual 168, 3) := by decide +kernel
theorem d_Mo_between_70 : decode b_Mo_between 70 = .ok (.ifCond .le 21, 3) := by decide +kernel
theorem d_Mo_between_73 : decode b_Mo_between 73 = .ok (.aload_n 0, 1) := by decide +kernel
theorem d_Mo_between_74 : decode b_Mo_between 74 = .ok (.iload_n 1, 1) := by decide +kernel
theorem d_Mo_between_75 : decode b_Mo_between 75 = .ok (.iload 9, 2) := by decide +kernel
theorem d_Mo_between_77 : decode b_Mo_between 77 = .ok (.lload 5, 2) := by decide +kernel
theorem d_Mo_between_79 : decode b_Mo_between 79 = .ok (.iload 7, 2) := by decide +kernel
theorem d_Mo_between_81 : decode b_Mo_between 81 = .ok (.invokevirtual 168, 3) := by decide +kernel
theorem d_Mo_between_84 : decode b_Mo_between 84 = .ok (.ifCond .gt 7, 3) := by decide +kernel
theorem d_Mo_between_87 : decode b_Mo_between 87 = .ok (.iconst 1, 1) := by decide +kernel
theorem d_Mo_between_88 : decode b_Mo_between 88 = .ok (.goto 4, 3) := by decide +kernel
theorem d_Mo_between_91 : decode b_Mo_between 91 = .ok (.iconst 0, 1) := by decide +kernel
theorem d_Mo_between_92 : decode b_Mo_between 92 = .ok (.iadd, 1) := by decide +kernel
theorem d_Mo_between_93 : decode b_Mo_between 93 = .ok (.istore 8, 2) := by decide +kernel
theorem d_Mo_between_95 : decode b_Mo_between 95 = .ok (.iinc 9 1, 3) := by decide +kernel
theorem d_Mo_between_98 : decode b_Mo_between 98 = .ok (.goto (-51), 3) := by decide +kernel
theorem d_Mo_between_101 : decode b_Mo_between 101 = .ok (.iload 8, 2) := by decide +kernel
theorem d_Mo_between_103 : decode b_Mo_between 103 = .ok (.ireturn, 1) := by decide +kernel
theorem d_Mo_multiple_0 : decode b_Mo_multiple 0 = .ok (.aload_n 0, 1) := by decide +kernel
theorem d_Mo_multiple_1 : decode b_Mo_multiple 1 = .ok (.iload_n 1, 1) := by decide +kernel
theorem d_Mo_multiple_2 : decode b_Mo_multiple 2 = .ok (.iconst 1, 1) := by decide +kernel
theorem d_Mo_multiple_3 : decode b_Mo_multiple 3 = .ok (.invokevirtual 153, 3) := by decide +kernel
theorem d_Mo_multiple_6 : decode b_Mo_multiple 6 = .ok (.ifCond .ne 36, 3) := by decide +kernel
theorem d_Mo_multiple_9 : decode b_Mo_multiple 9 = .ok (.aload_n 0, 1) := by decide +kernel
theorem d_Mo_multiple_10 : decode b_Mo_multiple 10 = .ok (.iload_n 2, 1) := by decide +kernel
theorem d_Mo_multiple_11 : decode b_Mo_multiple 11 = .ok (.i2l, 1) := by decide +kernel
theorem d_Mo_multiple_12 : decode b_Mo_multiple 12 = .ok (.lconst 0, 1) := by decide +kernel
theorem d_Mo_multiple_13 : decode b_Mo_multiple 13 = .ok (.aload_n 0, 1) := by decide +kernel
theorem d_Mo_multiple_14 : decode b_Mo_multiple 14 = .ok (.getfield 30, 3) := by decide +kernel
theorem d_Mo_multiple_17 : decode b_Mo_multiple 17 = .ok (.iload_n 1, 1) := by decide +kernel
theorem d_Mo_multiple_18 : decode b_Mo_multiple 18 = .ok (.iconst 1, 1) := by decide +kernel
theorem d_Mo_multiple_19 : decode b_Mo_multiple 19 = .ok (.iand, 1) := by decide +kernel
theorem d_Mo_multiple_20 : decode b_Mo_multiple 20 = .ok (.iaload, 1) := by decide +kernel
theorem d_Mo_multiple_21 : decode b_Mo_multiple 21 = .ok (.iconst 1, 1) := by decide +kernel
theorem d_Mo_multiple_22 : decode b_Mo_multiple 22 = .ok (.isub, 1) := by decide +kernel
theorem d_Mo_multiple_23 : decode b_Mo_multiple 23 = .ok (.i2l, 1) := by decide +kernel
theorem d_Mo_multiple_24 : decode b_Mo_multiple 24 = .ok (.invokestatic 140, 3) := by decide +kernel
theorem d_Mo_multiple_27 : decode b_Mo_multiple 27 = .ok (.ifCond .ne 7, 3) := by decide +kernel
theorem d_Mo_multiple_30 : decode b_Mo_multiple 30 = .ok (.iconst 1, 1) := by decide +kernel
theorem d_Mo_multiple_31 : decode b_Mo_multiple 31 = .ok (.goto 4, 3) := by decide +kernel
theorem d_Mo_multiple_34 : decode b_Mo_multiple 34 = .ok (.iconst 0, 1) := by decide +kernel
theorem d_Mo_multiple_35 : decode b_Mo_multiple 35 = .ok (.iconst 3, 1) := by decide +kernel
theorem d_Mo_multiple_36 : decode b_Mo_multiple 36 = .ok (.invokevirtual 146, 3) := by decide +kernel
theorem d_Mo_multiple_39 : decode b_Mo_multiple 39 = .ok (.ifCond .eq 5, 3) := by decide +kernel
theorem d_Mo_multiple_42 : decode b_Mo_multiple 42 = .ok (.iconst 0, 1) := by decide +kernel
theorem d_Mo_multiple_43 : decode b_Mo_multiple 43 = .ok (.ireturn, 1) := by decide +kernel
theorem d_Mo_multiple_44 : decode b_Mo_multiple 44 = .ok (.iconst 0, 1) := by decide +kernel
theorem d_Mo_multiple_45 : decode b_Mo_multiple 45 = .ok (.istore_n 3, 1) := by decide +kernel
theorem d_Mo_multiple_46 : decode b_Mo_multiple 46 = .ok (.iconst 1, 1) := by decide +kernel
theorem d_Mo_multiple_47 : decode b_Mo_multiple 47 = .ok (.istore 4, 2) := by decide +kernel
theorem d_Mo_multiple_49 : decode b_Mo_multiple 49 = .ok (.aload_n 0, 1) := by decide +kernel
theorem d_Mo_multiple_50 : decode b_Mo_multiple 50 = .ok (.bipush 8, 2) := by decide +kernel
theorem d_Mo_multiple_52 : decode b_Mo_multiple 52 = .ok (.iload_n 1, 1) := by decide +kernel
theorem d_Mo_multiple_53 : decode b_Mo_multiple 53 = .ok (.invokevirtual 89, 3) := by decide +kernel
theorem d_Mo_multiple_56 : decode b_Mo_multiple 56 = .ok (.aload_n 0, 1) := by decide +kernel
theorem d_Mo_multiple_57 : decode b_Mo_multiple 57 = .ok (.bipush 9, 2) := by decide +kernel
theorem d_Mo_multiple_59 : decode b_Mo_multiple 59 = .ok (.iconst 2, 1) := by decide +kernel
theorem d_Mo_multiple_60 : decode b_Mo_multiple 60 = .ok (.iload_n 1, 1) := by decide +kernel
theorem d_Mo_multiple_61 : decode b_Mo_multiple 61 = .ok (.iadd, 1) := by decide +kernel
theorem d_Mo_multiple_62 : decode b_Mo_multiple 62 = .ok (.invokevirtual 89, 3) := by decide +kernel
theorem d_Mo_multiple_65 : decode b_Mo_multiple 65 = .ok (.iload 4, 2) := by decide +kernel
theorem d_Mo_multiple_67 : decode b_Mo_multiple 67 = .ok (.ifCond .eq 65, 3) := by decide +kernel
theorem d_Mo_multiple_70 : decode b_Mo_multiple 70 = .ok (.iinc 3 1, 3) := by decide +kernel
theorem d_Mo_multiple_73 : decode b_Mo_multiple 73 = .ok (.aload_n 0, 1) := by decide +kernel
theorem d_Mo_multiple_74 : decode b_Mo_multiple 74 = .ok (.bipush 8, 2) := by decide +kernel
theorem d_Mo_multiple_76 : decode b_Mo_multiple 76 = .ok (.bipush 8, 2) := by decide +kernel
theorem d_Mo_multiple_78 : decode b_Mo_multiple 78 = .ok (.bipush 9, 2) := by decide +kernel
theorem d_Mo_multiple_80 : decode b_Mo_multiple 80 = .ok (.invokevirtual 105, 3) := by decide +kernel
theorem d_Mo_multiple_83 : decode b_Mo_multiple 83 = .ok (.aload_n 0, 1) := by decide +kernel
theorem d_Mo_multiple_84 : decode b_Mo_multiple 84 = .ok (.getfield 20, 3) := by decide +kernel
theorem d_Mo_multiple_87 : decode b_Mo_multiple 87 = .ok (.bipush 8, 2) := by decide +kernel
theorem d_Mo_multiple_89 : decode b_Mo_multiple 89 = .ok (.iaload, 1) := by decide +kernel
theorem d_Mo_multiple_90 : decode b_Mo_multiple 90 = .ok (.ifCond .le 7, 3) := by decide +kernel
theorem d_Mo_multiple_93 : decode b_Mo_multiple 93 = .ok (.iconst 1, 1) := by decide +kernel
theorem d_Mo_multiple_94 : decode b_Mo_multiple 94 = .ok (.goto 4, 3) := by decide +kernel
theorem d_Mo_multiple_97 : decode b_Mo_multiple 97 = .ok (.iconst 0, 1) := by decide +kernel
theorem d_Mo_multiple_98 : decode b_Mo_multiple 98 = .ok (.istore 4, 2) := by decide +kernel
theorem d_Mo_multiple_100 : decode b_Mo_multiple 100 = .ok (.iload 4, 2) := by decide +kernel
theorem d_Mo_multiple_102 : decode b_Mo_multiple 102 = .ok (.ifCond .ne 6, 3) := by decide +kernel
theorem d_Mo_multiple_105 : decode b_Mo_multiple 105 = .ok (.goto (-40), 3) := by decide +kernel
theorem d_Mo_multiple_108 : decode b_Mo_multiple 108 = .ok (.aload_n 0, 1) := by decide +kernel
theorem d_Mo_multiple_109 : decode b_Mo_multiple 109 = .ok (.bipush 9, 2) := by decide +kernel
theorem d_Mo_multiple_111 : decode b_Mo_multiple 111 = .ok (.bipush 8, 2) := by decide +kernel
theorem d_Mo_multiple_113 : decode b_Mo_multiple 113 = .ok (.iconst 2, 1) := by decide +kernel
theorem d_Mo_multiple_114 : decode b_Mo_multiple 114 = .ok (.iload_n 1, 1) := by decide +kernel
theorem d_Mo_multiple_115 : decode b_Mo_multiple 115 = .ok (.iadd, 1) := by decide +kernel
theorem d_Mo_multiple_116 : decode b_Mo_multiple 116 = .ok (.invokevirtual 102, 3) := by decide +kernel
theorem d_Mo_multiple_119 : decode b_Mo_multiple 119 = .ok (.aload_n 0, 1) := by decide +kernel
theorem d_Mo_multiple_120 : decode b_Mo_multiple 120 = .ok (.bipush 9, 2) := by decide +kernel
theorem d_Mo_multiple_122 : decode b_Mo_multiple 122 = .ok (.iload_n 1, 1) := by decide +kernel
theorem d_Mo_multiple_123 : decode b_Mo_multiple 123 = .ok (.iload_n 2, 1) := by decide +kernel
theorem d_Mo_multiple_124 : decode b_Mo_multiple 124 = .ok (.invokevirtual 172, 3) := by decide +kernel
theorem d_Mo_multiple_127 : decode b_Mo_multiple 127 = .ok (.istore 4, 2) := by decide +kernel
theorem d_Mo_multiple_129 : decode b_Mo_multiple 129 = .ok (.goto (-64), 3) := by decide +kernel
theorem d_Mo_multiple_132 : decode b_Mo_multiple 132 = .ok (.iload_n 3, 1) := by decide +kernel
theorem d_Mo_multiple_133 : decode b_Mo_multiple 133 = .ok (.ireturn, 1) := by decide +kernel
theorem d_Mo_side_0 : decode b_Mo_side 0 = .ok (.aload_n 0, 1) := by decide +kernel
theorem d_Mo_side_1 : decode b_Mo_side 1 = .ok (.iload_n 1, 1) := by decide +kernel
theorem d_Mo_side_2 : decode b_Mo_side 2 = .ok (.iload 5, 2) := by decide +kernel
theorem d_Mo_side_4 : decode b_Mo_side 4 = .ok (.i2l, 1) := by decide +kernel
theorem d_Mo_side_5 : decode b_Mo_side 5 = .ok (.lconst 0, 1) := by decide +kernel
theorem d_Mo_side_6 : decode b_Mo_side 6 = .ok (.ldc2_w 157, 3) := by decide +kernel
theorem d_Mo_side_9 : decode b_Mo_side 9 = .ok (.invokestatic 140, 3) := by decide +kernel
theorem d_Mo_side_12 : decode b_Mo_side 12 = .ok (.invokevirtual 153, 3) := by decide +kernel
theorem d_Mo_side_15 : decode b_Mo_side 15 = .ok (.ifCond .ne 36, 3) := by decide +kernel
theorem d_Mo_side_18 : decode b_Mo_side 18 = .ok (.aload_n 0, 1) := by decide +kernel
theorem d_Mo_side_19 : decode b_Mo_side 19 = .ok (.iload_n 2, 1) := by decide +kernel
theorem d_Mo_side_20 : decode b_Mo_side 20 = .ok (.i2l, 1) := by decide +kernel
theorem d_Mo_side_21 : decode b_Mo_side 21 = .ok (.lconst 0, 1) := by decide +kernel
theorem d_Mo_side_22 : decode b_Mo_side 22 = .ok (.aload_n 0, 1) := by decide +kernel
theorem d_Mo_side_23 : decode b_Mo_side 23 = .ok (.getfield 30, 3) := by decide +kernel
theorem d_Mo_side_26 : decode b_Mo_side 26 = .ok (.iload_n 1, 1) := by decide +kernel
theorem d_Mo_side_27 : decode b_Mo_side 27 = .ok (.iconst 1, 1) := by decide +kernel
theorem d_Mo_side_28 : decode b_Mo_side 28 = .ok (.iand, 1) := by decide +kernel
theorem d_Mo_side_29 : decode b_Mo_side 29 = .ok (.iaload, 1) := by decide +kernel
theorem d_Mo_side_30 : decode b_Mo_side 30 = .ok (.iconst 1, 1) := by decide +kernel
theorem d_Mo_side_31 : decode b_Mo_side 31 = .ok (.isub, 1) := by decide +kernel
theorem d_Mo_side_32 : decode b_Mo_side 32 = .ok (.i2l, 1) := by decide +kernel
theorem d_Mo_side_33 : decode b_Mo_side 33 = .ok (.invokestatic 140, 3) := by decide +kernel
theorem d_Mo_side_36 : decode b_Mo_side 36 = .ok (.ifCond .ne 7, 3) := by decide +kernel
theorem d_Mo_side_39 : decode b_Mo_side 39 = .ok (.iconst 1, 1) := by decide +kernel
theorem d_Mo_side_40 : decode b_Mo_side 40 = .ok (.goto 4, 3) := by decide +kernel
theorem d_Mo_side_43 : decode b_Mo_side 43 = .ok (.iconst 0, 1) := by decide +kernel
theorem d_Mo_side_44 : decode b_Mo_side 44 = .ok (.iconst 3, 1) := by decide +kernel
theorem d_Mo_side_45 : decode b_Mo_side 45 = .ok (.invokevirtual 146, 3) := by decide +kernel
theorem d_Mo_side_48 : decode b_Mo_side 48 = .ok (.ifCond .eq 5, 3) := by decide +kernel
theorem d_Mo_side_51 : decode b_Mo_side 51 = .ok (.iconst 0, 1) := by decide +kernel
theorem d_Mo_side_52 : decode b_Mo_side 52 = .ok (.ireturn, 1) := by decide +kernel
theorem d_Mo_side_53 : decode b_Mo_side 53 = .ok (.aload_n 0, 1) := by decide +kernel
theorem d_Mo_side_54 : decode b_Mo_side 54 = .ok (.iload_n 1, 1) := by decide +kernel
theorem d_Mo_side_55 : decode b_Mo_side 55 = .ok (.iload_n 2, 1) := by decide +kernel
theorem d_Mo_side_56 : decode b_Mo_side 56 = .ok (.lload_n 3, 1) := by decide +kernel
theorem d_Mo_side_57 : decode b_Mo_side 57 = .ok (.iload 5, 2) := by decide +kernel
theorem d_Mo_side_59 : decode b_Mo_side 59 = .ok (.invokevirtual 168, 3) := by decide +kernel
theorem d_Mo_side_62 : decode b_Mo_side 62 = .ok (.ireturn, 1) := by decide +kernel
theorem d_Mo_floor_0 : decode b_Mo_floor 0 = .ok (.aload_n 0, 1) := by decide +kernel
theorem d_Mo_floor_1 : decode b_Mo_floor 1 = .ok (.iload_n 1, 1) := by decide +kernel
theorem d_Mo_floor_2 : decode b_Mo_floor 2 = .ok (.iload 4, 2) := by decide +kernel
theorem d_Mo_floor_4 : decode b_Mo_floor 4 = .ok (.i2l, 1) := by decide +kernel
theorem d_Mo_floor_5 : decode b_Mo_floor 5 = .ok (.lconst 0, 1) := by decide +kernel
theorem d_Mo_floor_6 : decode b_Mo_floor 6 = .ok (.iload_n 3, 1) := by decide +kernel
theorem d_Mo_floor_7 : decode b_Mo_floor 7 = .ok (.ifCond .eq 9, 3) := by decide +kernel
theorem d_Mo_floor_10 : decode b_Mo_floor 10 = .ok (.ldc2_w 178, 3) := by decide +kernel
theorem d_Mo_floor_13 : decode b_Mo_floor 13 = .ok (.goto 6, 3) := by decide +kernel
theorem d_Mo_floor_16 : decode b_Mo_floor 16 = .ok (.ldc2_w 180, 3) := by decide +kernel
theorem d_Mo_floor_19 : decode b_Mo_floor 19 = .ok (.invokestatic 140, 3) := by decide +kernel
theorem d_Mo_floor_22 : decode b_Mo_floor 22 = .ok (.invokevirtual 153, 3) := by decide +kernel
theorem d_Mo_floor_25 : decode b_Mo_floor 25 = .ok (.ifCond .ne 36, 3) := by decide +kernel
theorem d_Mo_floor_28 : decode b_Mo_floor 28 = .ok (.aload_n 0, 1) := by decide +kernel
theorem d_Mo_floor_29 : decode b_Mo_floor 29 = .ok (.iload_n 2, 1) := by decide +kernel
theorem d_Mo_floor_30 : decode b_Mo_floor 30 = .ok (.i2l, 1) := by decide +kernel
theorem d_Mo_floor_31 : decode b_Mo_floor 31 = .ok (.lconst 0, 1) := by decide +kernel
theorem d_Mo_floor_32 : decode b_Mo_floor 32 = .ok (.aload_n 0, 1) := by decide +kernel
theorem d_Mo_floor_33 : decode b_Mo_floor 33 = .ok (.getfield 30, 3) := by decide +kernel
theorem d_Mo_floor_36 : decode b_Mo_floor 36 = .ok (.iload_n 1, 1) := by decide +kernel
theorem d_Mo_floor_37 : decode b_Mo_floor 37 = .ok (.iconst 1, 1) := by decide +kernel
theorem d_Mo_floor_38 : decode b_Mo_floor 38 = .ok (.iand, 1) := by decide +kernel
theorem d_Mo_floor_39 : decode b_Mo_floor 39 = .ok (.iaload, 1) := by decide +kernel
theorem d_Mo_floor_40 : decode b_Mo_floor 40 = .ok (.iconst 1, 1) := by decide +kernel
theorem d_Mo_floor_41 : decode b_Mo_floor 41 = .ok (.isub, 1) := by decide +kernel
theorem d_Mo_floor_42 : decode b_Mo_floor 42 = .ok (.i2l, 1) := by decide +kernel
theorem d_Mo_floor_43 : decode b_Mo_floor 43 = .ok (.invokestatic 140, 3) := by decide +kernel
theorem d_Mo_floor_46 : decode b_Mo_floor 46 = .ok (.ifCond .ne 7, 3) := by decide +kernel
theorem d_Mo_floor_49 : decode b_Mo_floor 49 = .ok (.iconst 1, 1) := by decide +kernel
theorem d_Mo_floor_50 : decode b_Mo_floor 50 = .ok (.goto 4, 3) := by decide +kernel
theorem d_Mo_floor_53 : decode b_Mo_floor 53 = .ok (.iconst 0, 1) := by decide +kernel
theorem d_Mo_floor_54 : decode b_Mo_floor 54 = .ok (.iconst 3, 1) := by decide +kernel
theorem d_Mo_floor_55 : decode b_Mo_floor 55 = .ok (.invokevirtual 146, 3) := by decide +kernel
theorem d_Mo_floor_58 : decode b_Mo_floor 58 = .ok (.ifCond .eq 5, 3) := by decide +kernel
theorem d_Mo_floor_61 : decode b_Mo_floor 61 = .ok (.iconst 0, 1) := by decide +kernel
theorem d_Mo_floor_62 : decode b_Mo_floor 62 = .ok (.ireturn, 1) := by decide +kernel
theorem d_Mo_floor_63 : decode b_Mo_floor 63 = .ok (.aload_n 0, 1) := by decide +kernel
theorem d_Mo_floor_64 : decode b_Mo_floor 64 = .ok (.iload_n 1, 1) := by decide +kernel
theorem d_Mo_floor_65 : decode b_Mo_floor 65 = .ok (.iload_n 2, 1) := by decide +kernel
theorem d_Mo_floor_66 : decode b_Mo_floor 66 = .ok (.iload_n 3, 1) := by decide +kernel
theorem d_Mo_floor_67 : decode b_Mo_floor 67 = .ok (.ifCond .eq 12, 3) := by decide +kernel
theorem d_Mo_floor_70 : decode b_Mo_floor 70 = .ok (.iconst 4, 1) := by decide +kernel
theorem d_Mo_floor_71 : decode b_Mo_floor 71 = .ok (.iload 4, 2) := by decide +kernel
theorem d_Mo_floor_73 : decode b_Mo_floor 73 = .ok (.imul, 1) := by decide +kernel
theorem d_Mo_floor_74 : decode b_Mo_floor 74 = .ok (.iconst 1, 1) := by decide +kernel
theorem d_Mo_floor_75 : decode b_Mo_floor 75 = .ok (.iadd, 1) := by decide +kernel
theorem d_Mo_floor_76 : decode b_Mo_floor 76 = .ok (.goto 5, 3) := by decide +kernel
theorem d_Mo_floor_79 : decode b_Mo_floor 79 = .ok (.iload 4, 2) := by decide +kernel
theorem d_Mo_floor_81 : decode b_Mo_floor 81 = .ok (.invokevirtual 159, 3) := by decide +kernel
theorem d_Mo_floor_84 : decode b_Mo_floor 84 = .ok (.sipush 130, 3) := by decide +kernel
theorem d_Mo_floor_87 : decode b_Mo_floor 87 = .ok (.istore 5, 2) := by decide +kernel
theorem d_Mo_floor_89 : decode b_Mo_floor 89 = .ok (.aload_n 0, 1) := by decide +kernel
theorem d_Mo_floor_90 : decode b_Mo_floor 90 = .ok (.iload 5, 2) := by decide +kernel
theorem d_Mo_floor_92 : decode b_Mo_floor 92 = .ok (.iload_n 1, 1) := by decide +kernel
theorem d_Mo_floor_93 : decode b_Mo_floor 93 = .ok (.iload_n 2, 1) := by decide +kernel
theorem d_Mo_floor_94 : decode b_Mo_floor 94 = .ok (.invokevirtual 162, 3) := by decide +kernel
theorem d_Mo_floor_97 : decode b_Mo_floor 97 = .ok (.istore 6, 2) := by decide +kernel
theorem d_Mo_floor_99 : decode b_Mo_floor 99 = .ok (.iload_n 3, 1) := by decide +kernel
theorem d_Mo_floor_100 : decode b_Mo_floor 100 = .ok (.ifCond .eq 18, 3) := by decide +kernel
theorem d_Mo_floor_103 : decode b_Mo_floor 103 = .ok (.aload_n 0, 1) := by decide +kernel
theorem d_Mo_floor_104 : decode b_Mo_floor 104 = .ok (.iload_n 1, 1) := by decide +kernel
theorem d_Mo_floor_105 : decode b_Mo_floor 105 = .ok (.iload_n 2, 1) := by decide +kernel
theorem d_Mo_floor_106 : decode b_Mo_floor 106 = .ok (.iload 5, 2) := by decide +kernel
theorem d_Mo_floor_108 : decode b_Mo_floor 108 = .ok (.iload 6, 2) := by decide +kernel
theorem d_Mo_floor_110 : decode b_Mo_floor 110 = .ok (.iload 4, 2) := by decide +kernel
theorem d_Mo_floor_112 : decode b_Mo_floor 112 = .ok (.invokevirtual 182, 3) := by decide +kernel
theorem d_Mo_floor_115 : decode b_Mo_floor 115 = .ok (.goto 14, 3) := by decide +kernel
theorem d_Mo_floor_118 : decode b_Mo_floor 118 = .ok (.aload_n 0, 1) := by decide +kernel
theorem d_Mo_floor_119 : decode b_Mo_floor 119 = .ok (.iload 5, 2) := by decide +kernel
theorem d_Mo_floor_121 : decode b_Mo_floor 121 = .ok (.iload 6, 2) := by decide +kernel
theorem d_Mo_floor_123 : decode b_Mo_floor 123 = .ok (.iload 4, 2) := by decide +kernel
theorem d_Mo_floor_125 : decode b_Mo_floor 125 = .ok (.isub, 1) := by decide +kernel
theorem d_Mo_floor_126 : decode b_Mo_floor 126 = .ok (.invokevirtual 186, 3) := by decide +kernel
theorem d_Mo_floor_129 : decode b_Mo_floor 129 = .ok (.aload_n 0, 1) := by decide +kernel
theorem d_Mo_floor_130 : decode b_Mo_floor 130 = .ok (.iload 5, 2) := by decide +kernel
theorem d_Mo_floor_132 : decode b_Mo_floor 132 = .ok (.invokevirtual 189, 3) := by decide +kernel
theorem d_Mo_floor_135 : decode b_Mo_floor 135 = .ok (.ireturn, 1) := by decide +kernel
theorem d_Mo_apart_0 : decode b_Mo_apart 0 = .ok (.aload_n 0, 1) := by decide +kernel
theorem d_Mo_apart_1 : decode b_Mo_apart 1 = .ok (.iload_n 1, 1) := by decide +kernel
theorem d_Mo_apart_2 : decode b_Mo_apart 2 = .ok (.iconst 1, 1) := by decide +kernel
theorem d_Mo_apart_3 : decode b_Mo_apart 3 = .ok (.invokevirtual 153, 3) := by decide +kernel
theorem d_Mo_apart_6 : decode b_Mo_apart 6 = .ok (.ifCond .eq 5, 3) := by decide +kernel
theorem d_Mo_apart_9 : decode b_Mo_apart 9 = .ok (.iconst 0, 1) := by decide +kernel
theorem d_Mo_apart_10 : decode b_Mo_apart 10 = .ok (.ireturn, 1) := by decide +kernel
theorem d_Mo_apart_11 : decode b_Mo_apart 11 = .ok (.iconst 0, 1) := by decide +kernel
theorem d_Mo_apart_12 : decode b_Mo_apart 12 = .ok (.istore_n 2, 1) := by decide +kernel
theorem d_Mo_apart_13 : decode b_Mo_apart 13 = .ok (.iconst 1, 1) := by decide +kernel
theorem d_Mo_apart_14 : decode b_Mo_apart 14 = .ok (.istore_n 3, 1) := by decide +kernel
theorem d_Mo_apart_15 : decode b_Mo_apart 15 = .ok (.iload_n 3, 1) := by decide +kernel
theorem d_Mo_apart_16 : decode b_Mo_apart 16 = .ok (.aload_n 0, 1) := by decide +kernel
theorem d_Mo_apart_17 : decode b_Mo_apart 17 = .ok (.getfield 30, 3) := by decide +kernel
theorem d_Mo_apart_20 : decode b_Mo_apart 20 = .ok (.iload_n 1, 1) := by decide +kernel
theorem d_Mo_apart_21 : decode b_Mo_apart 21 = .ok (.iaload, 1) := by decide +kernel
theorem d_Mo_apart_22 : decode b_Mo_apart 22 = .ok (.if_icmp .ge 42, 3) := by decide +kernel
theorem d_Mo_apart_25 : decode b_Mo_apart 25 = .ok (.iconst 0, 1) := by decide +kernel
theorem d_Mo_apart_26 : decode b_Mo_apart 26 = .ok (.istore 4, 2) := by decide +kernel
theorem d_Mo_apart_28 : decode b_Mo_apart 28 = .ok (.aload_n 0, 1) := by decide +kernel
theorem d_Mo_apart_29 : decode b_Mo_apart 29 = .ok (.iload_n 1, 1) := by decide +kernel
theorem d_Mo_apart_30 : decode b_Mo_apart 30 = .ok (.iload_n 3, 1) := by decide +kernel
theorem d_Mo_apart_31 : decode b_Mo_apart 31 = .ok (.iload 4, 2) := by decide +kernel
theorem d_Mo_apart_33 : decode b_Mo_apart 33 = .ok (.invokevirtual 201, 3) := by decide +kernel
theorem d_Mo_apart_36 : decode b_Mo_apart 36 = .ok (.ifCond .eq 9, 3) := by decide +kernel
theorem d_Mo_apart_39 : decode b_Mo_apart 39 = .ok (.iinc 4 1, 3) := by decide +kernel
theorem d_Mo_apart_42 : decode b_Mo_apart 42 = .ok (.goto (-14), 3) := by decide +kernel
theorem d_Mo_apart_45 : decode b_Mo_apart 45 = .ok (.iload 4, 2) := by decide +kernel
theorem d_Mo_apart_47 : decode b_Mo_apart 47 = .ok (.iload_n 2, 1) := by decide +kernel
theorem d_Mo_apart_48 : decode b_Mo_apart 48 = .ok (.if_icmp .le 8, 3) := by decide +kernel
theorem d_Mo_apart_51 : decode b_Mo_apart 51 = .ok (.iload 4, 2) := by decide +kernel
theorem d_Mo_apart_53 : decode b_Mo_apart 53 = .ok (.goto 4, 3) := by decide +kernel
theorem d_Mo_apart_56 : decode b_Mo_apart 56 = .ok (.iload_n 2, 1) := by decide +kernel
theorem d_Mo_apart_57 : decode b_Mo_apart 57 = .ok (.istore_n 2, 1) := by decide +kernel
theorem d_Mo_apart_58 : decode b_Mo_apart 58 = .ok (.iinc 3 1, 3) := by decide +kernel
theorem d_Mo_apart_61 : decode b_Mo_apart 61 = .ok (.goto (-46), 3) := by decide +kernel
theorem d_Mo_apart_64 : decode b_Mo_apart 64 = .ok (.iload_n 2, 1) := by decide +kernel
theorem d_Mo_apart_65 : decode b_Mo_apart 65 = .ok (.ireturn, 1) := by decide +kernel
theorem d_Mo_order_0 : decode b_Mo_order 0 = .ok (.aload_n 0, 1) := by decide +kernel
theorem d_Mo_order_1 : decode b_Mo_order 1 = .ok (.iconst 1, 1) := by decide +kernel
theorem d_Mo_order_2 : decode b_Mo_order 2 = .ok (.invokevirtual 204, 3) := by decide +kernel
theorem d_Mo_order_5 : decode b_Mo_order 5 = .ok (.ifCond .eq 5, 3) := by decide +kernel
theorem d_Mo_order_8 : decode b_Mo_order 8 = .ok (.iconst 0, 1) := by decide +kernel
theorem d_Mo_order_9 : decode b_Mo_order 9 = .ok (.ireturn, 1) := by decide +kernel
theorem d_Mo_order_10 : decode b_Mo_order 10 = .ok (.aload_n 0, 1) := by decide +kernel
theorem d_Mo_order_11 : decode b_Mo_order 11 = .ok (.iconst 0, 1) := by decide +kernel
theorem d_Mo_order_12 : decode b_Mo_order 12 = .ok (.invokevirtual 150, 3) := by decide +kernel
theorem d_Mo_order_15 : decode b_Mo_order 15 = .ok (.aload_n 0, 1) := by decide +kernel
theorem d_Mo_order_16 : decode b_Mo_order 16 = .ok (.iconst 1, 1) := by decide +kernel
theorem d_Mo_order_17 : decode b_Mo_order 17 = .ok (.invokevirtual 150, 3) := by decide +kernel
theorem d_Mo_order_20 : decode b_Mo_order 20 = .ok (.aload_n 0, 1) := by decide +kernel
theorem d_Mo_order_21 : decode b_Mo_order 21 = .ok (.iload_n 1, 1) := by decide +kernel
theorem d_Mo_order_22 : decode b_Mo_order 22 = .ok (.i2l, 1) := by decide +kernel
theorem d_Mo_order_23 : decode b_Mo_order 23 = .ok (.lconst 0, 1) := by decide +kernel
theorem d_Mo_order_24 : decode b_Mo_order 24 = .ok (.aload_n 0, 1) := by decide +kernel
theorem d_Mo_order_25 : decode b_Mo_order 25 = .ok (.getfield 30, 3) := by decide +kernel
theorem d_Mo_order_28 : decode b_Mo_order 28 = .ok (.iconst 0, 1) := by decide +kernel
theorem d_Mo_order_29 : decode b_Mo_order 29 = .ok (.iaload, 1) := by decide +kernel
theorem d_Mo_order_30 : decode b_Mo_order 30 = .ok (.iconst 1, 1) := by decide +kernel
theorem d_Mo_order_31 : decode b_Mo_order 31 = .ok (.isub, 1) := by decide +kernel
theorem d_Mo_order_32 : decode b_Mo_order 32 = .ok (.i2l, 1) := by decide +kernel
theorem d_Mo_order_33 : decode b_Mo_order 33 = .ok (.invokestatic 140, 3) := by decide +kernel
theorem d_Mo_order_36 : decode b_Mo_order 36 = .ok (.ifCond .eq 21, 3) := by decide +kernel
theorem d_Mo_order_39 : decode b_Mo_order 39 = .ok (.iload_n 2, 1) := by decide +kernel
theorem d_Mo_order_40 : decode b_Mo_order 40 = .ok (.i2l, 1) := by decide +kernel
theorem d_Mo_order_41 : decode b_Mo_order 41 = .ok (.lconst 0, 1) := by decide +kernel
theorem d_Mo_order_42 : decode b_Mo_order 42 = .ok (.aload_n 0, 1) := by decide +kernel
theorem d_Mo_order_43 : decode b_Mo_order 43 = .ok (.getfield 30, 3) := by decide +kernel
theorem d_Mo_order_46 : decode b_Mo_order 46 = .ok (.iconst 1, 1) := by decide +kernel
theorem d_Mo_order_47 : decode b_Mo_order 47 = .ok (.iaload, 1) := by decide +kernel
theorem d_Mo_order_48 : decode b_Mo_order 48 = .ok (.iconst 1, 1) := by decide +kernel
theorem d_Mo_order_49 : decode b_Mo_order 49 = .ok (.isub, 1) := by decide +kernel
theorem d_Mo_order_50 : decode b_Mo_order 50 = .ok (.i2l, 1) := by decide +kernel
theorem d_Mo_order_51 : decode b_Mo_order 51 = .ok (.invokestatic 140, 3) := by decide +kernel
theorem d_Mo_order_54 : decode b_Mo_order 54 = .ok (.ifCond .ne 7, 3) := by decide +kernel
theorem d_Mo_order_57 : decode b_Mo_order 57 = .ok (.iconst 1, 1) := by decide +kernel
theorem d_Mo_order_58 : decode b_Mo_order 58 = .ok (.goto 4, 3) := by decide +kernel
theorem d_Mo_order_61 : decode b_Mo_order 61 = .ok (.iconst 0, 1) := by decide +kernel
theorem d_Mo_order_62 : decode b_Mo_order 62 = .ok (.iconst 2, 1) := by decide +kernel
theorem d_Mo_order_63 : decode b_Mo_order 63 = .ok (.invokevirtual 146, 3) := by decide +kernel
theorem d_Mo_order_66 : decode b_Mo_order 66 = .ok (.ifCond .eq 5, 3) := by decide +kernel
theorem d_Mo_order_69 : decode b_Mo_order 69 = .ok (.iconst 0, 1) := by decide +kernel
theorem d_Mo_order_70 : decode b_Mo_order 70 = .ok (.ireturn, 1) := by decide +kernel
theorem d_Mo_order_71 : decode b_Mo_order 71 = .ok (.aload_n 0, 1) := by decide +kernel
theorem d_Mo_order_72 : decode b_Mo_order 72 = .ok (.bipush 8, 2) := by decide +kernel
theorem d_Mo_order_74 : decode b_Mo_order 74 = .ok (.iconst 2, 1) := by decide +kernel
theorem d_Mo_order_75 : decode b_Mo_order 75 = .ok (.iconst 3, 1) := by decide +kernel
theorem d_Mo_order_76 : decode b_Mo_order 76 = .ok (.invokevirtual 102, 3) := by decide +kernel
theorem d_Mo_order_79 : decode b_Mo_order 79 = .ok (.iconst 1, 1) := by decide +kernel
theorem d_Mo_order_80 : decode b_Mo_order 80 = .ok (.istore_n 3, 1) := by decide +kernel
theorem d_Mo_order_81 : decode b_Mo_order 81 = .ok (.iconst 0, 1) := by decide +kernel
theorem d_Mo_order_82 : decode b_Mo_order 82 = .ok (.istore 4, 2) := by decide +kernel
theorem d_Mo_order_84 : decode b_Mo_order 84 = .ok (.iload_n 3, 1) := by decide +kernel
theorem d_Mo_order_85 : decode b_Mo_order 85 = .ok (.ifCond .eq 184, 3) := by decide +kernel
theorem d_Mo_order_88 : decode b_Mo_order 88 = .ok (.aload_n 0, 1) := by decide +kernel
theorem d_Mo_order_89 : decode b_Mo_order 89 = .ok (.getfield 23, 3) := by decide +kernel
theorem d_Mo_order_92 : decode b_Mo_order 92 = .ok (.iload_n 1, 1) := by decide +kernel
theorem d_Mo_order_93 : decode b_Mo_order 93 = .ok (.iaload, 1) := by decide +kernel
theorem d_Mo_order_94 : decode b_Mo_order 94 = .ok (.aload_n 0, 1) := by decide +kernel
theorem d_Mo_order_95 : decode b_Mo_order 95 = .ok (.getfield 23, 3) := by decide +kernel
theorem d_Mo_order_98 : decode b_Mo_order 98 = .ok (.bipush 8, 2) := by decide +kernel
theorem d_Mo_order_100 : decode b_Mo_order 100 = .ok (.iload_n 2, 1) := by decide +kernel
theorem d_Mo_order_101 : decode b_Mo_order 101 = .ok (.iadd, 1) := by decide +kernel
theorem d_Mo_order_102 : decode b_Mo_order 102 = .ok (.iaload, 1) := by decide +kernel
theorem d_Mo_order_103 : decode b_Mo_order 103 = .ok (.if_icmp .le 12, 3) := by decide +kernel
theorem d_Mo_order_106 : decode b_Mo_order 106 = .ok (.aload_n 0, 1) := by decide +kernel
theorem d_Mo_order_107 : decode b_Mo_order 107 = .ok (.getfield 23, 3) := by decide +kernel
theorem d_Mo_order_110 : decode b_Mo_order 110 = .ok (.iload_n 1, 1) := by decide +kernel
theorem d_Mo_order_111 : decode b_Mo_order 111 = .ok (.iaload, 1) := by decide +kernel
theorem d_Mo_order_112 : decode b_Mo_order 112 = .ok (.goto 12, 3) := by decide +kernel
theorem d_Mo_order_115 : decode b_Mo_order 115 = .ok (.aload_n 0, 1) := by decide +kernel
theorem d_Mo_order_116 : decode b_Mo_order 116 = .ok (.getfield 23, 3) := by decide +kernel
theorem d_Mo_order_119 : decode b_Mo_order 119 = .ok (.bipush 8, 2) := by decide +kernel
theorem d_Mo_order_121 : decode b_Mo_order 121 = .ok (.iload_n 2, 1) := by decide +kernel
theorem d_Mo_order_122 : decode b_Mo_order 122 = .ok (.iadd, 1) := by decide +kernel
theorem d_Mo_order_123 : decode b_Mo_order 123 = .ok (.iaload, 1) := by decide +kernel
theorem d_Mo_order_124 : decode b_Mo_order 124 = .ok (.istore 5, 2) := by decide +kernel
theorem d_Mo_order_126 : decode b_Mo_order 126 = .ok (.aload_n 0, 1) := by decide +kernel
theorem d_Mo_order_127 : decode b_Mo_order 127 = .ok (.iconst 0, 1) := by decide +kernel
theorem d_Mo_order_128 : decode b_Mo_order 128 = .ok (.iload_n 1, 1) := by decide +kernel
theorem d_Mo_order_129 : decode b_Mo_order 129 = .ok (.iload 5, 2) := by decide +kernel
theorem d_Mo_order_131 : decode b_Mo_order 131 = .ok (.bipush 44, 2) := by decide +kernel
theorem d_Mo_order_133 : decode b_Mo_order 133 = .ok (.isub, 1) := by decide +kernel
theorem d_Mo_order_134 : decode b_Mo_order 134 = .ok (.invokevirtual 159, 3) := by decide +kernel
theorem d_Mo_order_137 : decode b_Mo_order 137 = .ok (.aload_n 0, 1) := by decide +kernel
theorem d_Mo_order_138 : decode b_Mo_order 138 = .ok (.iconst 1, 1) := by decide +kernel
theorem d_Mo_order_139 : decode b_Mo_order 139 = .ok (.iload_n 2, 1) := by decide +kernel
theorem d_Mo_order_140 : decode b_Mo_order 140 = .ok (.iload 5, 2) := by decide +kernel
theorem d_Mo_order_142 : decode b_Mo_order 142 = .ok (.bipush 44, 2) := by decide +kernel
theorem d_Mo_order_144 : decode b_Mo_order 144 = .ok (.isub, 1) := by decide +kernel
theorem d_Mo_order_145 : decode b_Mo_order 145 = .ok (.invokevirtual 159, 3) := by decide +kernel
theorem d_Mo_order_148 : decode b_Mo_order 148 = .ok (.aload_n 0, 1) := by decide +kernel
theorem d_Mo_order_149 : decode b_Mo_order 149 = .ok (.aload_n 0, 1) := by decide +kernel
theorem d_Mo_order_150 : decode b_Mo_order 150 = .ok (.iconst 0, 1) := by decide +kernel
theorem d_Mo_order_151 : decode b_Mo_order 151 = .ok (.iload_n 1, 1) := by decide +kernel
theorem d_Mo_order_152 : decode b_Mo_order 152 = .ok (.invokevirtual 115, 3) := by decide +kernel
theorem d_Mo_order_155 : decode b_Mo_order 155 = .ok (.aload_n 0, 1) := by decide +kernel
theorem d_Mo_order_156 : decode b_Mo_order 156 = .ok (.iconst 1, 1) := by decide +kernel
theorem d_Mo_order_157 : decode b_Mo_order 157 = .ok (.iload_n 2, 1) := by decide +kernel
theorem d_Mo_order_158 : decode b_Mo_order 158 = .ok (.invokevirtual 115, 3) := by decide +kernel
theorem d_Mo_order_161 : decode b_Mo_order 161 = .ok (.invokevirtual 49, 3) := by decide +kernel
theorem d_Mo_order_164 : decode b_Mo_order 164 = .ok (.istore 4, 2) := by decide +kernel
theorem d_Mo_order_166 : decode b_Mo_order 166 = .ok (.iconst 0, 1) := by decide +kernel
theorem d_Mo_order_167 : decode b_Mo_order 167 = .ok (.istore_n 3, 1) := by decide +kernel
theorem d_Mo_order_168 : decode b_Mo_order 168 = .ok (.iload 4, 2) := by decide +kernel
theorem d_Mo_order_170 : decode b_Mo_order 170 = .ok (.ifCond .eq 6, 3) := by decide +kernel
theorem d_Mo_order_173 : decode b_Mo_order 173 = .ok (.goto (-89), 3) := by decide +kernel
theorem d_Mo_order_176 : decode b_Mo_order 176 = .ok (.aload_n 0, 1) := by decide +kernel
theorem d_Mo_order_177 : decode b_Mo_order 177 = .ok (.getfield 26, 3) := by decide +kernel
theorem d_Mo_order_180 : decode b_Mo_order 180 = .ok (.iload_n 1, 1) := by decide +kernel
theorem d_Mo_order_181 : decode b_Mo_order 181 = .ok (.baload, 1) := by decide +kernel
theorem d_Mo_order_182 : decode b_Mo_order 182 = .ok (.ifCond .ne 15, 3) := by decide +kernel
theorem d_Mo_order_185 : decode b_Mo_order 185 = .ok (.aload_n 0, 1) := by decide +kernel
theorem d_Mo_order_186 : decode b_Mo_order 186 = .ok (.getfield 26, 3) := by decide +kernel
theorem d_Mo_order_189 : decode b_Mo_order 189 = .ok (.bipush 8, 2) := by decide +kernel
theorem d_Mo_order_191 : decode b_Mo_order 191 = .ok (.iload_n 2, 1) := by decide +kernel
theorem d_Mo_order_192 : decode b_Mo_order 192 = .ok (.iadd, 1) := by decide +kernel
theorem d_Mo_order_193 : decode b_Mo_order 193 = .ok (.baload, 1) := by decide +kernel
theorem d_Mo_order_194 : decode b_Mo_order 194 = .ok (.ifCond .eq 47, 3) := by decide +kernel
theorem d_Mo_order_197 : decode b_Mo_order 197 = .ok (.aload_n 0, 1) := by decide +kernel
theorem d_Mo_order_198 : decode b_Mo_order 198 = .ok (.getfield 26, 3) := by decide +kernel
theorem d_Mo_order_201 : decode b_Mo_order 201 = .ok (.iload_n 1, 1) := by decide +kernel
theorem d_Mo_order_202 : decode b_Mo_order 202 = .ok (.baload, 1) := by decide +kernel
theorem d_Mo_order_203 : decode b_Mo_order 203 = .ok (.ifCond .eq 19, 3) := by decide +kernel
theorem d_Mo_order_206 : decode b_Mo_order 206 = .ok (.aload_n 0, 1) := by decide +kernel
theorem d_Mo_order_207 : decode b_Mo_order 207 = .ok (.getfield 26, 3) := by decide +kernel
theorem d_Mo_order_210 : decode b_Mo_order 210 = .ok (.bipush 8, 2) := by decide +kernel
theorem d_Mo_order_212 : decode b_Mo_order 212 = .ok (.iload_n 2, 1) := by decide +kernel
theorem d_Mo_order_213 : decode b_Mo_order 213 = .ok (.iadd, 1) := by decide +kernel
theorem d_Mo_order_214 : decode b_Mo_order 214 = .ok (.baload, 1) := by decide +kernel
theorem d_Mo_order_215 : decode b_Mo_order 215 = .ok (.ifCond .eq 7, 3) := by decide +kernel
theorem d_Mo_order_218 : decode b_Mo_order 218 = .ok (.iconst 0, 1) := by decide +kernel
theorem d_Mo_order_219 : decode b_Mo_order 219 = .ok (.goto 17, 3) := by decide +kernel
theorem d_Mo_order_222 : decode b_Mo_order 222 = .ok (.aload_n 0, 1) := by decide +kernel
theorem d_Mo_order_223 : decode b_Mo_order 223 = .ok (.getfield 26, 3) := by decide +kernel
theorem d_Mo_order_226 : decode b_Mo_order 226 = .ok (.iload_n 1, 1) := by decide +kernel
theorem d_Mo_order_227 : decode b_Mo_order 227 = .ok (.baload, 1) := by decide +kernel
theorem d_Mo_order_228 : decode b_Mo_order 228 = .ok (.ifCond .eq 7, 3) := by decide +kernel
theorem d_Mo_order_231 : decode b_Mo_order 231 = .ok (.iconst (-1), 1) := by decide +kernel
theorem d_Mo_order_232 : decode b_Mo_order 232 = .ok (.goto 4, 3) := by decide +kernel
theorem d_Mo_order_235 : decode b_Mo_order 235 = .ok (.iconst 1, 1) := by decide +kernel
theorem d_Mo_order_236 : decode b_Mo_order 236 = .ok (.istore 4, 2) := by decide +kernel
theorem d_Mo_order_238 : decode b_Mo_order 238 = .ok (.goto 28, 3) := by decide +kernel
theorem d_Mo_order_241 : decode b_Mo_order 241 = .ok (.aload_n 0, 1) := by decide +kernel
theorem d_Mo_order_242 : decode b_Mo_order 242 = .ok (.bipush 8, 2) := by decide +kernel
theorem d_Mo_order_244 : decode b_Mo_order 244 = .ok (.iconst 0, 1) := by decide +kernel
theorem d_Mo_order_245 : decode b_Mo_order 245 = .ok (.iload_n 1, 1) := by decide +kernel
theorem d_Mo_order_246 : decode b_Mo_order 246 = .ok (.invokevirtual 172, 3) := by decide +kernel
theorem d_Mo_order_249 : decode b_Mo_order 249 = .ok (.ifCond .ne 17, 3) := by decide +kernel
theorem d_Mo_order_252 : decode b_Mo_order 252 = .ok (.aload_n 0, 1) := by decide +kernel
theorem d_Mo_order_253 : decode b_Mo_order 253 = .ok (.iconst 0, 1) := by decide +kernel
theorem d_Mo_order_254 : decode b_Mo_order 254 = .ok (.iload_n 1, 1) := by decide +kernel
theorem d_Mo_order_255 : decode b_Mo_order 255 = .ok (.invokevirtual 134, 3) := by decide +kernel
theorem d_Mo_order_258 : decode b_Mo_order 258 = .ok (.aload_n 0, 1) := by decide +kernel
theorem d_Mo_order_259 : decode b_Mo_order 259 = .ok (.iconst 1, 1) := by decide +kernel
theorem d_Mo_order_260 : decode b_Mo_order 260 = .ok (.iload_n 2, 1) := by decide +kernel
theorem d_Mo_order_261 : decode b_Mo_order 261 = .ok (.invokevirtual 134, 3) := by decide +kernel
theorem d_Mo_order_264 : decode b_Mo_order 264 = .ok (.iconst 1, 1) := by decide +kernel
theorem d_Mo_order_265 : decode b_Mo_order 265 = .ok (.istore_n 3, 1) := by decide +kernel
theorem d_Mo_order_266 : decode b_Mo_order 266 = .ok (.goto (-182), 3) := by decide +kernel
theorem d_Mo_order_269 : decode b_Mo_order 269 = .ok (.iload 4, 2) := by decide +kernel
theorem d_Mo_order_271 : decode b_Mo_order 271 = .ok (.ireturn, 1) := by decide +kernel
theorem d_Mo_signAt_0 : decode b_Mo_signAt 0 = .ok (.aload_n 0, 1) := by decide +kernel
theorem d_Mo_signAt_1 : decode b_Mo_signAt 1 = .ok (.iload_n 1, 1) := by decide +kernel
theorem d_Mo_signAt_2 : decode b_Mo_signAt 2 = .ok (.i2l, 1) := by decide +kernel
theorem d_Mo_signAt_3 : decode b_Mo_signAt 3 = .ok (.lconst 0, 1) := by decide +kernel
theorem d_Mo_signAt_4 : decode b_Mo_signAt 4 = .ok (.lconst 1, 1) := by decide +kernel
theorem d_Mo_signAt_5 : decode b_Mo_signAt 5 = .ok (.invokestatic 140, 3) := by decide +kernel
theorem d_Mo_signAt_8 : decode b_Mo_signAt 8 = .ok (.ifCond .ne 7, 3) := by decide +kernel
theorem d_Mo_signAt_11 : decode b_Mo_signAt 11 = .ok (.iconst 1, 1) := by decide +kernel
theorem d_Mo_signAt_12 : decode b_Mo_signAt 12 = .ok (.goto 4, 3) := by decide +kernel
theorem d_Mo_signAt_15 : decode b_Mo_signAt 15 = .ok (.iconst 0, 1) := by decide +kernel
theorem d_Mo_signAt_16 : decode b_Mo_signAt 16 = .ok (.iconst 1, 1) := by decide +kernel
theorem d_Mo_signAt_17 : decode b_Mo_signAt 17 = .ok (.invokevirtual 146, 3) := by decide +kernel
theorem d_Mo_signAt_20 : decode b_Mo_signAt 20 = .ok (.ifCond .ne 11, 3) := by decide +kernel
theorem d_Mo_signAt_23 : decode b_Mo_signAt 23 = .ok (.aload_n 0, 1) := by decide +kernel
theorem d_Mo_signAt_24 : decode b_Mo_signAt 24 = .ok (.iconst 2, 1) := by decide +kernel
theorem d_Mo_signAt_25 : decode b_Mo_signAt 25 = .ok (.invokevirtual 204, 3) := by decide +kernel
theorem d_Mo_signAt_28 : decode b_Mo_signAt 28 = .ok (.ifCond .eq 5, 3) := by decide +kernel
theorem d_Mo_signAt_31 : decode b_Mo_signAt 31 = .ok (.iconst 0, 1) := by decide +kernel
theorem d_Mo_signAt_32 : decode b_Mo_signAt 32 = .ok (.ireturn, 1) := by decide +kernel
theorem d_Mo_signAt_33 : decode b_Mo_signAt 33 = .ok (.iconst 1, 1) := by decide +kernel
theorem d_Mo_signAt_34 : decode b_Mo_signAt 34 = .ok (.iload_n 1, 1) := by decide +kernel
theorem d_Mo_signAt_35 : decode b_Mo_signAt 35 = .ok (.isub, 1) := by decide +kernel
theorem d_Mo_signAt_36 : decode b_Mo_signAt 36 = .ok (.istore_n 3, 1) := by decide +kernel
theorem d_Mo_signAt_37 : decode b_Mo_signAt 37 = .ok (.aload_n 0, 1) := by decide +kernel
theorem d_Mo_signAt_38 : decode b_Mo_signAt 38 = .ok (.iload_n 1, 1) := by decide +kernel
theorem d_Mo_signAt_39 : decode b_Mo_signAt 39 = .ok (.invokevirtual 150, 3) := by decide +kernel
theorem d_Mo_signAt_42 : decode b_Mo_signAt 42 = .ok (.aload_n 0, 1) := by decide +kernel
theorem d_Mo_signAt_43 : decode b_Mo_signAt 43 = .ok (.iload_n 3, 1) := by decide +kernel
theorem d_Mo_signAt_44 : decode b_Mo_signAt 44 = .ok (.invokevirtual 150, 3) := by decide +kernel
theorem d_Mo_signAt_47 : decode b_Mo_signAt 47 = .ok (.aload_n 0, 1) := by decide +kernel
theorem d_Mo_signAt_48 : decode b_Mo_signAt 48 = .ok (.iload_n 2, 1) := by decide +kernel
theorem d_Mo_signAt_49 : decode b_Mo_signAt 49 = .ok (.i2l, 1) := by decide +kernel
theorem d_Mo_signAt_50 : decode b_Mo_signAt 50 = .ok (.lconst 0, 1) := by decide +kernel
theorem d_Mo_signAt_51 : decode b_Mo_signAt 51 = .ok (.aload_n 0, 1) := by decide +kernel
theorem d_Mo_signAt_52 : decode b_Mo_signAt 52 = .ok (.getfield 30, 3) := by decide +kernel
theorem d_Mo_signAt_55 : decode b_Mo_signAt 55 = .ok (.iload_n 1, 1) := by decide +kernel
theorem d_Mo_signAt_56 : decode b_Mo_signAt 56 = .ok (.iaload, 1) := by decide +kernel
theorem d_Mo_signAt_57 : decode b_Mo_signAt 57 = .ok (.iconst 1, 1) := by decide +kernel
theorem d_Mo_signAt_58 : decode b_Mo_signAt 58 = .ok (.isub, 1) := by decide +kernel
theorem d_Mo_signAt_59 : decode b_Mo_signAt 59 = .ok (.i2l, 1) := by decide +kernel
theorem d_Mo_signAt_60 : decode b_Mo_signAt 60 = .ok (.invokestatic 140, 3) := by decide +kernel
theorem d_Mo_signAt_63 : decode b_Mo_signAt 63 = .ok (.ifCond .ne 7, 3) := by decide +kernel
theorem d_Mo_signAt_66 : decode b_Mo_signAt 66 = .ok (.iconst 1, 1) := by decide +kernel
theorem d_Mo_signAt_67 : decode b_Mo_signAt 67 = .ok (.goto 4, 3) := by decide +kernel
theorem d_Mo_signAt_70 : decode b_Mo_signAt 70 = .ok (.iconst 0, 1) := by decide +kernel
theorem d_Mo_signAt_71 : decode b_Mo_signAt 71 = .ok (.iconst 3, 1) := by decide +kernel
theorem d_Mo_signAt_72 : decode b_Mo_signAt 72 = .ok (.invokevirtual 146, 3) := by decide +kernel
theorem d_Mo_signAt_75 : decode b_Mo_signAt 75 = .ok (.ifCond .eq 5, 3) := by decide +kernel
theorem d_Mo_signAt_78 : decode b_Mo_signAt 78 = .ok (.iconst 0, 1) := by decide +kernel
theorem d_Mo_signAt_79 : decode b_Mo_signAt 79 = .ok (.ireturn, 1) := by decide +kernel
theorem d_Mo_signAt_80 : decode b_Mo_signAt 80 = .ok (.aload_n 0, 1) := by decide +kernel
theorem d_Mo_signAt_81 : decode b_Mo_signAt 81 = .ok (.getfield 20, 3) := by decide +kernel
theorem d_Mo_signAt_84 : decode b_Mo_signAt 84 = .ok (.iload_n 3, 1) := by decide +kernel
theorem d_Mo_signAt_85 : decode b_Mo_signAt 85 = .ok (.iaload, 1) := by decide +kernel
theorem d_Mo_signAt_86 : decode b_Mo_signAt 86 = .ok (.ifCond .ne 13, 3) := by decide +kernel
theorem d_Mo_signAt_89 : decode b_Mo_signAt 89 = .ok (.aload_n 0, 1) := by decide +kernel
theorem d_Mo_signAt_90 : decode b_Mo_signAt 90 = .ok (.getfield 17, 3) := by decide +kernel
theorem d_Mo_signAt_93 : decode b_Mo_signAt 93 = .ok (.bipush 9, 2) := by decide +kernel
theorem d_Mo_signAt_95 : decode b_Mo_signAt 95 = .ok (.iload_n 3, 1) := by decide +kernel
theorem d_Mo_signAt_96 : decode b_Mo_signAt 96 = .ok (.imul, 1) := by decide +kernel
theorem d_Mo_signAt_97 : decode b_Mo_signAt 97 = .ok (.iaload, 1) := by decide +kernel
theorem d_Mo_signAt_98 : decode b_Mo_signAt 98 = .ok (.ireturn, 1) := by decide +kernel
theorem d_Mo_signAt_99 : decode b_Mo_signAt 99 = .ok (.aload_n 0, 1) := by decide +kernel
theorem d_Mo_signAt_100 : decode b_Mo_signAt 100 = .ok (.bipush 8, 2) := by decide +kernel
theorem d_Mo_signAt_102 : decode b_Mo_signAt 102 = .ok (.iconst 2, 1) := by decide +kernel
theorem d_Mo_signAt_103 : decode b_Mo_signAt 103 = .ok (.iload_n 1, 1) := by decide +kernel
theorem d_Mo_signAt_104 : decode b_Mo_signAt 104 = .ok (.iadd, 1) := by decide +kernel
theorem d_Mo_signAt_105 : decode b_Mo_signAt 105 = .ok (.iconst 2, 1) := by decide +kernel
theorem d_Mo_signAt_106 : decode b_Mo_signAt 106 = .ok (.iload_n 3, 1) := by decide +kernel
theorem d_Mo_signAt_107 : decode b_Mo_signAt 107 = .ok (.iadd, 1) := by decide +kernel
theorem d_Mo_signAt_108 : decode b_Mo_signAt 108 = .ok (.invokevirtual 102, 3) := by decide +kernel
theorem d_Mo_signAt_111 : decode b_Mo_signAt 111 = .ok (.aload_n 0, 1) := by decide +kernel
theorem d_Mo_signAt_112 : decode b_Mo_signAt 112 = .ok (.bipush 8, 2) := by decide +kernel
theorem d_Mo_signAt_114 : decode b_Mo_signAt 114 = .ok (.iload_n 1, 1) := by decide +kernel
theorem d_Mo_signAt_115 : decode b_Mo_signAt 115 = .ok (.iload_n 2, 1) := by decide +kernel
theorem d_Mo_signAt_116 : decode b_Mo_signAt 116 = .ok (.invokevirtual 172, 3) := by decide +kernel
theorem d_Mo_signAt_119 : decode b_Mo_signAt 119 = .ok (.ifCond .eq 5, 3) := by decide +kernel
theorem d_Mo_signAt_122 : decode b_Mo_signAt 122 = .ok (.iconst 0, 1) := by decide +kernel
theorem d_Mo_signAt_123 : decode b_Mo_signAt 123 = .ok (.ireturn, 1) := by decide +kernel
theorem d_Mo_signAt_124 : decode b_Mo_signAt 124 = .ok (.iconst 0, 1) := by decide +kernel
theorem d_Mo_signAt_125 : decode b_Mo_signAt 125 = .ok (.istore 4, 2) := by decide +kernel
theorem d_Mo_signAt_127 : decode b_Mo_signAt 127 = .ok (.iload 4, 2) := by decide +kernel
theorem d_Mo_signAt_129 : decode b_Mo_signAt 129 = .ok (.ifCond .ne 105, 3) := by decide +kernel
theorem d_Mo_signAt_132 : decode b_Mo_signAt 132 = .ok (.aload_n 0, 1) := by decide +kernel
theorem d_Mo_signAt_133 : decode b_Mo_signAt 133 = .ok (.bipush 113, 2) := by decide +kernel
theorem d_Mo_signAt_135 : decode b_Mo_signAt 135 = .ok (.iload_n 1, 1) := by decide +kernel
theorem d_Mo_signAt_136 : decode b_Mo_signAt 136 = .ok (.iload_n 2, 1) := by decide +kernel
theorem d_Mo_signAt_137 : decode b_Mo_signAt 137 = .ok (.invokevirtual 162, 3) := by decide +kernel
theorem d_Mo_signAt_140 : decode b_Mo_signAt 140 = .ok (.istore 5, 2) := by decide +kernel
theorem d_Mo_signAt_142 : decode b_Mo_signAt 142 = .ok (.aload_n 0, 1) := by decide +kernel
theorem d_Mo_signAt_143 : decode b_Mo_signAt 143 = .ok (.getfield 26, 3) := by decide +kernel
theorem d_Mo_signAt_146 : decode b_Mo_signAt 146 = .ok (.bipush 8, 2) := by decide +kernel
theorem d_Mo_signAt_148 : decode b_Mo_signAt 148 = .ok (.iload_n 1, 1) := by decide +kernel
theorem d_Mo_signAt_149 : decode b_Mo_signAt 149 = .ok (.imul, 1) := by decide +kernel
theorem d_Mo_signAt_150 : decode b_Mo_signAt 150 = .ok (.iload_n 2, 1) := by decide +kernel
theorem d_Mo_signAt_151 : decode b_Mo_signAt 151 = .ok (.iadd, 1) := by decide +kernel
theorem d_Mo_signAt_152 : decode b_Mo_signAt 152 = .ok (.baload, 1) := by decide +kernel
theorem d_Mo_signAt_153 : decode b_Mo_signAt 153 = .ok (.ifCond .ne 30, 3) := by decide +kernel
theorem d_Mo_signAt_156 : decode b_Mo_signAt 156 = .ok (.aload_n 0, 1) := by decide +kernel
theorem d_Mo_signAt_157 : decode b_Mo_signAt 157 = .ok (.iconst 2, 1) := by decide +kernel
theorem d_Mo_signAt_158 : decode b_Mo_signAt 158 = .ok (.iload_n 3, 1) := by decide +kernel
theorem d_Mo_signAt_159 : decode b_Mo_signAt 159 = .ok (.iadd, 1) := by decide +kernel
theorem d_Mo_signAt_160 : decode b_Mo_signAt 160 = .ok (.aload_n 0, 1) := by decide +kernel
theorem d_Mo_signAt_161 : decode b_Mo_signAt 161 = .ok (.iload_n 1, 1) := by decide +kernel
theorem d_Mo_signAt_162 : decode b_Mo_signAt 162 = .ok (.iload_n 2, 1) := by decide +kernel
theorem d_Mo_signAt_163 : decode b_Mo_signAt 163 = .ok (.invokevirtual 115, 3) := by decide +kernel
theorem d_Mo_signAt_166 : decode b_Mo_signAt 166 = .ok (.aload_n 0, 1) := by decide +kernel
theorem d_Mo_signAt_167 : decode b_Mo_signAt 167 = .ok (.getfield 23, 3) := by decide +kernel
theorem d_Mo_signAt_170 : decode b_Mo_signAt 170 = .ok (.bipush 8, 2) := by decide +kernel
theorem d_Mo_signAt_172 : decode b_Mo_signAt 172 = .ok (.iload_n 1, 1) := by decide +kernel
theorem d_Mo_signAt_173 : decode b_Mo_signAt 173 = .ok (.imul, 1) := by decide +kernel
theorem d_Mo_signAt_174 : decode b_Mo_signAt 174 = .ok (.iload_n 2, 1) := by decide +kernel
theorem d_Mo_signAt_175 : decode b_Mo_signAt 175 = .ok (.iadd, 1) := by decide +kernel
theorem d_Mo_signAt_176 : decode b_Mo_signAt 176 = .ok (.iaload, 1) := by decide +kernel
theorem d_Mo_signAt_177 : decode b_Mo_signAt 177 = .ok (.invokevirtual 121, 3) := by decide +kernel
theorem d_Mo_signAt_180 : decode b_Mo_signAt 180 = .ok (.ifCond .ne 7, 3) := by decide +kernel
theorem d_Mo_signAt_183 : decode b_Mo_signAt 183 = .ok (.iconst 1, 1) := by decide +kernel
theorem d_Mo_signAt_184 : decode b_Mo_signAt 184 = .ok (.goto 4, 3) := by decide +kernel
theorem d_Mo_signAt_187 : decode b_Mo_signAt 187 = .ok (.iconst 0, 1) := by decide +kernel
theorem d_Mo_signAt_188 : decode b_Mo_signAt 188 = .ok (.istore 6, 2) := by decide +kernel
theorem d_Mo_signAt_190 : decode b_Mo_signAt 190 = .ok (.aload_n 0, 1) := by decide +kernel
theorem d_Mo_signAt_191 : decode b_Mo_signAt 191 = .ok (.bipush 113, 2) := by decide +kernel
theorem d_Mo_signAt_193 : decode b_Mo_signAt 193 = .ok (.iload_n 1, 1) := by decide +kernel
theorem d_Mo_signAt_194 : decode b_Mo_signAt 194 = .ok (.iload_n 2, 1) := by decide +kernel
theorem d_Mo_signAt_195 : decode b_Mo_signAt 195 = .ok (.invokevirtual 162, 3) := by decide +kernel
theorem d_Mo_signAt_198 : decode b_Mo_signAt 198 = .ok (.istore 5, 2) := by decide +kernel
theorem d_Mo_signAt_200 : decode b_Mo_signAt 200 = .ok (.iload 6, 2) := by decide +kernel
theorem d_Mo_signAt_202 : decode b_Mo_signAt 202 = .ok (.ifCond .eq 15, 3) := by decide +kernel
theorem d_Mo_signAt_205 : decode b_Mo_signAt 205 = .ok (.aload_n 0, 1) := by decide +kernel
theorem d_Mo_signAt_206 : decode b_Mo_signAt 206 = .ok (.iload_n 3, 1) := by decide +kernel
theorem d_Mo_signAt_207 : decode b_Mo_signAt 207 = .ok (.bipush 113, 2) := by decide +kernel
theorem d_Mo_signAt_209 : decode b_Mo_signAt 209 = .ok (.iload 5, 2) := by decide +kernel
theorem d_Mo_signAt_211 : decode b_Mo_signAt 211 = .ok (.invokevirtual 131, 3) := by decide +kernel
theorem d_Mo_signAt_214 : decode b_Mo_signAt 214 = .ok (.goto 4, 3) := by decide +kernel
theorem d_Mo_signAt_217 : decode b_Mo_signAt 217 = .ok (.iconst 0, 1) := by decide +kernel
theorem d_Mo_signAt_218 : decode b_Mo_signAt 218 = .ok (.istore 4, 2) := by decide +kernel
theorem d_Mo_signAt_220 : decode b_Mo_signAt 220 = .ok (.iload 4, 2) := by decide +kernel
theorem d_Mo_signAt_222 : decode b_Mo_signAt 222 = .ok (.ifCond .ne 9, 3) := by decide +kernel
theorem d_Mo_signAt_225 : decode b_Mo_signAt 225 = .ok (.aload_n 0, 1) := by decide +kernel
theorem d_Mo_signAt_226 : decode b_Mo_signAt 226 = .ok (.iload_n 1, 1) := by decide +kernel
theorem d_Mo_signAt_227 : decode b_Mo_signAt 227 = .ok (.iload_n 2, 1) := by decide +kernel
theorem d_Mo_signAt_228 : decode b_Mo_signAt 228 = .ok (.invokevirtual 134, 3) := by decide +kernel
theorem d_Mo_signAt_231 : decode b_Mo_signAt 231 = .ok (.goto (-104), 3) := by decide +kernel
theorem d_Mo_signAt_234 : decode b_Mo_signAt 234 = .ok (.iload 4, 2) := by decide +kernel
theorem d_Mo_signAt_236 : decode b_Mo_signAt 236 = .ok (.ireturn, 1) := by decide +kernel
theorem d_Mo_common_0 : decode b_Mo_common 0 = .ok (.aload_n 0, 1) := by decide +kernel
theorem d_Mo_common_1 : decode b_Mo_common 1 = .ok (.iconst 1, 1) := by decide +kernel
theorem d_Mo_common_2 : decode b_Mo_common 2 = .ok (.invokevirtual 204, 3) := by decide +kernel
theorem d_Mo_common_5 : decode b_Mo_common 5 = .ok (.ifCond .eq 5, 3) := by decide +kernel
theorem d_Mo_common_8 : decode b_Mo_common 8 = .ok (.iconst 0, 1) := by decide +kernel
theorem d_Mo_common_9 : decode b_Mo_common 9 = .ok (.ireturn, 1) := by decide +kernel
theorem d_Mo_common_10 : decode b_Mo_common 10 = .ok (.aload_n 0, 1) := by decide +kernel
theorem d_Mo_common_11 : decode b_Mo_common 11 = .ok (.iconst 0, 1) := by decide +kernel
theorem d_Mo_common_12 : decode b_Mo_common 12 = .ok (.invokevirtual 150, 3) := by decide +kernel
theorem d_Mo_common_15 : decode b_Mo_common 15 = .ok (.aload_n 0, 1) := by decide +kernel
theorem d_Mo_common_16 : decode b_Mo_common 16 = .ok (.getfield 30, 3) := by decide +kernel
theorem d_Mo_common_19 : decode b_Mo_common 19 = .ok (.iconst 0, 1) := by decide +kernel
theorem d_Mo_common_20 : decode b_Mo_common 20 = .ok (.iaload, 1) := by decide +kernel
theorem d_Mo_common_21 : decode b_Mo_common 21 = .ok (.ifCond .eq 12, 3) := by decide +kernel
theorem d_Mo_common_24 : decode b_Mo_common 24 = .ok (.aload_n 0, 1) := by decide +kernel
theorem d_Mo_common_25 : decode b_Mo_common 25 = .ok (.getfield 20, 3) := by decide +kernel
theorem d_Mo_common_28 : decode b_Mo_common 28 = .ok (.iconst 1, 1) := by decide +kernel
theorem d_Mo_common_29 : decode b_Mo_common 29 = .ok (.iaload, 1) := by decide +kernel
theorem d_Mo_common_30 : decode b_Mo_common 30 = .ok (.ifCond .ne 5, 3) := by decide +kernel
theorem d_Mo_common_33 : decode b_Mo_common 33 = .ok (.iconst 0, 1) := by decide +kernel
theorem d_Mo_common_34 : decode b_Mo_common 34 = .ok (.ireturn, 1) := by decide +kernel
theorem d_Mo_common_35 : decode b_Mo_common 35 = .ok (.aload_n 0, 1) := by decide +kernel
theorem d_Mo_common_36 : decode b_Mo_common 36 = .ok (.bipush 8, 2) := by decide +kernel
theorem d_Mo_common_38 : decode b_Mo_common 38 = .ok (.iconst 2, 1) := by decide +kernel
theorem d_Mo_common_39 : decode b_Mo_common 39 = .ok (.iconst 1, 1) := by decide +kernel
theorem d_Mo_common_40 : decode b_Mo_common 40 = .ok (.invokevirtual 102, 3) := by decide +kernel
theorem d_Mo_common_43 : decode b_Mo_common 43 = .ok (.iconst 0, 1) := by decide +kernel
theorem d_Mo_common_44 : decode b_Mo_common 44 = .ok (.istore_n 1, 1) := by decide +kernel
theorem d_Mo_common_45 : decode b_Mo_common 45 = .ok (.iconst 0, 1) := by decide +kernel
theorem d_Mo_common_46 : decode b_Mo_common 46 = .ok (.istore_n 2, 1) := by decide +kernel
theorem d_Mo_common_47 : decode b_Mo_common 47 = .ok (.iload_n 2, 1) := by decide +kernel
theorem d_Mo_common_48 : decode b_Mo_common 48 = .ok (.aload_n 0, 1) := by decide +kernel
theorem d_Mo_common_49 : decode b_Mo_common 49 = .ok (.getfield 30, 3) := by decide +kernel
theorem d_Mo_common_52 : decode b_Mo_common 52 = .ok (.iconst 0, 1) := by decide +kernel
theorem d_Mo_common_53 : decode b_Mo_common 53 = .ok (.iaload, 1) := by decide +kernel
theorem d_Mo_common_54 : decode b_Mo_common 54 = .ok (.if_icmp .ge 28, 3) := by decide +kernel
theorem d_Mo_common_57 : decode b_Mo_common 57 = .ok (.iload_n 1, 1) := by decide +kernel
theorem d_Mo_common_58 : decode b_Mo_common 58 = .ok (.aload_n 0, 1) := by decide +kernel
theorem d_Mo_common_59 : decode b_Mo_common 59 = .ok (.bipush 8, 2) := by decide +kernel
theorem d_Mo_common_61 : decode b_Mo_common 61 = .ok (.iconst 0, 1) := by decide +kernel
theorem d_Mo_common_62 : decode b_Mo_common 62 = .ok (.iload_n 2, 1) := by decide +kernel
theorem d_Mo_common_63 : decode b_Mo_common 63 = .ok (.invokevirtual 172, 3) := by decide +kernel
theorem d_Mo_common_66 : decode b_Mo_common 66 = .ok (.ifCond .eq 7, 3) := by decide +kernel
theorem d_Mo_common_69 : decode b_Mo_common 69 = .ok (.iconst 1, 1) := by decide +kernel
theorem d_Mo_common_70 : decode b_Mo_common 70 = .ok (.goto 4, 3) := by decide +kernel
theorem d_Mo_common_73 : decode b_Mo_common 73 = .ok (.iconst 0, 1) := by decide +kernel
theorem d_Mo_common_74 : decode b_Mo_common 74 = .ok (.iadd, 1) := by decide +kernel
theorem d_Mo_common_75 : decode b_Mo_common 75 = .ok (.istore_n 1, 1) := by decide +kernel
theorem d_Mo_common_76 : decode b_Mo_common 76 = .ok (.iinc 2 1, 3) := by decide +kernel
theorem d_Mo_common_79 : decode b_Mo_common 79 = .ok (.goto (-32), 3) := by decide +kernel
theorem d_Mo_common_82 : decode b_Mo_common 82 = .ok (.iload_n 1, 1) := by decide +kernel
theorem d_Mo_common_83 : decode b_Mo_common 83 = .ok (.ireturn, 1) := by decide +kernel
theorem d_Mo_out_0 : decode b_Mo_out 0 = .ok (.aload_n 0, 1) := by decide +kernel
theorem d_Mo_out_1 : decode b_Mo_out 1 = .ok (.iload_n 1, 1) := by decide +kernel
theorem d_Mo_out_2 : decode b_Mo_out 2 = .ok (.i2l, 1) := by decide +kernel
theorem d_Mo_out_3 : decode b_Mo_out 3 = .ok (.lconst 0, 1) := by decide +kernel
theorem d_Mo_out_4 : decode b_Mo_out 4 = .ok (.aload_n 0, 1) := by decide +kernel
theorem d_Mo_out_5 : decode b_Mo_out 5 = .ok (.getfield 198, 3) := by decide +kernel
theorem d_Mo_out_8 : decode b_Mo_out 8 = .ok (.iconst 1, 1) := by decide +kernel
theorem d_Mo_out_9 : decode b_Mo_out 9 = .ok (.isub, 1) := by decide +kernel
theorem d_Mo_out_10 : decode b_Mo_out 10 = .ok (.i2l, 1) := by decide +kernel
theorem d_Mo_out_11 : decode b_Mo_out 11 = .ok (.invokestatic 140, 3) := by decide +kernel
theorem d_Mo_out_14 : decode b_Mo_out 14 = .ok (.ifCond .ne 7, 3) := by decide +kernel
theorem d_Mo_out_17 : decode b_Mo_out 17 = .ok (.iconst 1, 1) := by decide +kernel
theorem d_Mo_out_18 : decode b_Mo_out 18 = .ok (.goto 4, 3) := by decide +kernel
theorem d_Mo_out_21 : decode b_Mo_out 21 = .ok (.iconst 0, 1) := by decide +kernel
theorem d_Mo_out_22 : decode b_Mo_out 22 = .ok (.iconst 1, 1) := by decide +kernel
theorem d_Mo_out_23 : decode b_Mo_out 23 = .ok (.invokevirtual 146, 3) := by decide +kernel
theorem d_Mo_out_26 : decode b_Mo_out 26 = .ok (.ifCond .eq 5, 3) := by decide +kernel
theorem d_Mo_out_29 : decode b_Mo_out 29 = .ok (.lconst 0, 1) := by decide +kernel
theorem d_Mo_out_30 : decode b_Mo_out 30 = .ok (.lreturn, 1) := by decide +kernel
theorem d_Mo_out_31 : decode b_Mo_out 31 = .ok (.lconst 0, 1) := by decide +kernel
theorem d_Mo_out_32 : decode b_Mo_out 32 = .ok (.lstore_n 2, 1) := by decide +kernel
theorem d_Mo_out_33 : decode b_Mo_out 33 = .ok (.iconst 0, 1) := by decide +kernel
theorem d_Mo_out_34 : decode b_Mo_out 34 = .ok (.istore 4, 2) := by decide +kernel
theorem d_Mo_out_36 : decode b_Mo_out 36 = .ok (.iload 4, 2) := by decide +kernel
theorem d_Mo_out_38 : decode b_Mo_out 38 = .ok (.bipush 8, 2) := by decide +kernel
theorem d_Mo_out_40 : decode b_Mo_out 40 = .ok (.if_icmp .ge 39, 3) := by decide +kernel
theorem d_Mo_out_43 : decode b_Mo_out 43 = .ok (.iload_n 1, 1) := by decide +kernel
theorem d_Mo_out_44 : decode b_Mo_out 44 = .ok (.iload 4, 2) := by decide +kernel
theorem d_Mo_out_46 : decode b_Mo_out 46 = .ok (.iadd, 1) := by decide +kernel
theorem d_Mo_out_47 : decode b_Mo_out 47 = .ok (.aload_n 0, 1) := by decide +kernel
theorem d_Mo_out_48 : decode b_Mo_out 48 = .ok (.getfield 198, 3) := by decide +kernel
theorem d_Mo_out_51 : decode b_Mo_out 51 = .ok (.if_icmp .ge 28, 3) := by decide +kernel
theorem d_Mo_out_54 : decode b_Mo_out 54 = .ok (.lload_n 2, 1) := by decide +kernel
theorem d_Mo_out_55 : decode b_Mo_out 55 = .ok (.aload_n 0, 1) := by decide +kernel
theorem d_Mo_out_56 : decode b_Mo_out 56 = .ok (.getfield 33, 3) := by decide +kernel
theorem d_Mo_out_59 : decode b_Mo_out 59 = .ok (.iload_n 1, 1) := by decide +kernel
theorem d_Mo_out_60 : decode b_Mo_out 60 = .ok (.iload 4, 2) := by decide +kernel
theorem d_Mo_out_62 : decode b_Mo_out 62 = .ok (.iadd, 1) := by decide +kernel
theorem d_Mo_out_63 : decode b_Mo_out 63 = .ok (.iaload, 1) := by decide +kernel
theorem d_Mo_out_64 : decode b_Mo_out 64 = .ok (.i2l, 1) := by decide +kernel
theorem d_Mo_out_65 : decode b_Mo_out 65 = .ok (.bipush 8, 2) := by decide +kernel
theorem d_Mo_out_67 : decode b_Mo_out 67 = .ok (.iload 4, 2) := by decide +kernel
theorem d_Mo_out_69 : decode b_Mo_out 69 = .ok (.imul, 1) := by decide +kernel
theorem d_Mo_out_70 : decode b_Mo_out 70 = .ok (.lshl, 1) := by decide +kernel
theorem d_Mo_out_71 : decode b_Mo_out 71 = .ok (.lor, 1) := by decide +kernel
theorem d_Mo_out_72 : decode b_Mo_out 72 = .ok (.lstore_n 2, 1) := by decide +kernel
theorem d_Mo_out_73 : decode b_Mo_out 73 = .ok (.iinc 4 1, 3) := by decide +kernel
theorem d_Mo_out_76 : decode b_Mo_out 76 = .ok (.goto (-40), 3) := by decide +kernel
theorem d_Mo_out_79 : decode b_Mo_out 79 = .ok (.lload_n 2, 1) := by decide +kernel
theorem d_Mo_out_80 : decode b_Mo_out 80 = .ok (.lreturn, 1) := by decide +kernel
theorem d_Mo_lacks_0 : decode b_Mo_lacks 0 = .ok (.aload_n 0, 1) := by decide +kernel
theorem d_Mo_lacks_1 : decode b_Mo_lacks 1 = .ok (.aload_n 0, 1) := by decide +kernel
theorem d_Mo_lacks_2 : decode b_Mo_lacks 2 = .ok (.getfield 20, 3) := by decide +kernel
theorem d_Mo_lacks_5 : decode b_Mo_lacks 5 = .ok (.iconst 0, 1) := by decide +kernel
theorem d_Mo_lacks_6 : decode b_Mo_lacks 6 = .ok (.iaload, 1) := by decide +kernel
theorem d_Mo_lacks_7 : decode b_Mo_lacks 7 = .ok (.ifCond .lt 12, 3) := by decide +kernel
theorem d_Mo_lacks_10 : decode b_Mo_lacks 10 = .ok (.aload_n 0, 1) := by decide +kernel
theorem d_Mo_lacks_11 : decode b_Mo_lacks 11 = .ok (.getfield 20, 3) := by decide +kernel
theorem d_Mo_lacks_14 : decode b_Mo_lacks 14 = .ok (.iconst 1, 1) := by decide +kernel
theorem d_Mo_lacks_15 : decode b_Mo_lacks 15 = .ok (.iaload, 1) := by decide +kernel
theorem d_Mo_lacks_16 : decode b_Mo_lacks 16 = .ok (.ifCond .ge 7, 3) := by decide +kernel
theorem d_Mo_lacks_19 : decode b_Mo_lacks 19 = .ok (.iconst 1, 1) := by decide +kernel
theorem d_Mo_lacks_20 : decode b_Mo_lacks 20 = .ok (.goto 4, 3) := by decide +kernel
theorem d_Mo_lacks_23 : decode b_Mo_lacks 23 = .ok (.iconst 0, 1) := by decide +kernel
theorem d_Mo_lacks_24 : decode b_Mo_lacks 24 = .ok (.iload_n 1, 1) := by decide +kernel
theorem d_Mo_lacks_25 : decode b_Mo_lacks 25 = .ok (.invokevirtual 146, 3) := by decide +kernel
theorem d_Mo_lacks_28 : decode b_Mo_lacks 28 = .ok (.ireturn, 1) := by decide +kernel
set_option maxHeartbeats 4000000 in
set_option maxRecDepth 100000 in
theorem c_Mo_roots_1 (l : Launch) (K : pw_K) (f : pw_F) (a sz : Nat) (th wr : Int32) (L Z S G P Ex O T V : Nat → Int32) (hm : mo K f a th wr L Z S G P Ex O T V) (p0 : Int32) (hc : p0 < 0 ∨ ¬ p0 < 2)  : pw_C l K y_Mo_roots b_Mo_roots 2 (some .int) (rmk 3 0 0) f [.ref a, .int p0] sz (moQ K f a 1 wr L Z S G P Ex O T V sz (some (.int 0))) := by
  refine pw_start (by decide) (Nat.le_of_ble_eq_true rfl) ?_
  intro p e s m args below meth c ls X hr hin hz hS hl
  have hl : lv_has ls 2 [(0, .ref a), (1, .int p0)] := hl
  have hx := X.1
  have hb := X.2.1
  generalize s.heap = H0 at hz hS ⊢
  generalize ([] : List Loc) = lc0 at hS ⊢
  refine lv_aload_n hx hb d_Mo_roots_0 rfl (lv_at hl 0 rfl) ?_
  refine lv_iload_n hx hb d_Mo_roots_1 rfl (lv_at hl 1 rfl) ?_
  refine lv_iconst (v := 1) hx hb d_Mo_roots_2 (by decide) ?_
  refine pw_callV X hS (As := [.int p0, .int 1]) (rest := []) (c_Mo_stops_1 l K f a sz th wr L Z S G P Ex O T V hm p0 1 (Or.inl hc)) hz w_cd_Mo_stops w_ini_Mo w_ml_Mo_153 w_im_Mo_stops w_se_Mo_stops (hm.1) rfl hd_Mo_stops rfl hl.1 (Nat.le_of_ble_eq_true rfl) d_Mo_roots_3 ⟨Nat.le_of_ble_eq_true rfl, Nat.le_of_ble_eq_true rfl⟩ ⟨show 0 + 0 ≤ 0 by omega, show 0 + 0 ≤ 0 by omega⟩ (fun v f1 H1 lc1 hp hS1 => ?_)
  refine W.cs (cells' := 0) (slots' := 0) rfl rfl ?_
  clear hS hz
  obtain ⟨rfl, hz1, hm1, hq1⟩ := hp
  refine lv_if_eq (tgt := 13) hx hb d_Mo_roots_6 (by decide) (fun cw => absurd cw (by decide)) (fun _ => ?_)
  refine lv_iconst (v := 0) hx hb d_Mo_roots_9 (by decide) ?_
  refine lv_goto (tgt := 19) hx hb d_Mo_roots_10 (by decide) ?_
  exact pw_iret X hS1 hr ⟨rfl, hz1, hm1, hq1⟩ (show 0 ≤ 0 by omega) (show 0 ≤ 0 by omega) d_Mo_roots_19
set_option maxHeartbeats 4000000 in
set_option maxRecDepth 100000 in
theorem c_Mo_roots_2 (l : Launch) (K : pw_K) (f : pw_F) (a sz : Nat) (th wr : Int32) (L Z S G P Ex O T V : Nat → Int32) (hm : mo K f a th wr L Z S G P Ex O T V) (j : Nat) (hj : j < 2) (hdg : G j < 0)  : pw_C l K y_Mo_roots b_Mo_roots 2 (some .int) (rmk 3 0 0) f [.ref a, .int (nI j)] sz (moQ K f a 2 wr L Z S G P Ex O T V sz (some (.int 0))) := by
  refine pw_start (by decide) (Nat.le_of_ble_eq_true rfl) ?_
  intro p e s m args below meth c ls X hr hin hz hS hl
  have hl : lv_has ls 2 [(0, .ref a), (1, .int (nI j))] := hl
  have hx := X.1
  have hb := X.2.1
  generalize s.heap = H0 at hz hS ⊢
  generalize ([] : List Loc) = lc0 at hS ⊢
  refine lv_aload_n hx hb d_Mo_roots_0 rfl (lv_at hl 0 rfl) ?_
  refine lv_iload_n hx hb d_Mo_roots_1 rfl (lv_at hl 1 rfl) ?_
  refine lv_iconst (v := 1) hx hb d_Mo_roots_2 (by decide) ?_
  refine pw_callV X hS (As := [.int (nI j), .int 1]) (rest := []) (c_Mo_stops_2 l K f a sz th wr L Z S G P Ex O T V hm j hj hdg) hz w_cd_Mo_stops w_ini_Mo w_ml_Mo_153 w_im_Mo_stops w_se_Mo_stops (hm.1) rfl hd_Mo_stops rfl hl.1 (Nat.le_of_ble_eq_true rfl) d_Mo_roots_3 ⟨Nat.le_of_ble_eq_true rfl, Nat.le_of_ble_eq_true rfl⟩ ⟨show 0 + 0 ≤ 0 by omega, show 0 + 0 ≤ 0 by omega⟩ (fun v f1 H1 lc1 hp hS1 => ?_)
  refine W.cs (cells' := 0) (slots' := 0) rfl rfl ?_
  clear hS hz
  obtain ⟨rfl, hz1, hm1, hq1⟩ := hp
  refine lv_if_eq (tgt := 13) hx hb d_Mo_roots_6 (by decide) (fun cw => absurd cw (by decide)) (fun _ => ?_)
  refine lv_iconst (v := 0) hx hb d_Mo_roots_9 (by decide) ?_
  refine lv_goto (tgt := 19) hx hb d_Mo_roots_10 (by decide) ?_
  exact pw_iret X hS1 hr ⟨rfl, hz1, hm1, hq1⟩ (show 0 ≤ 0 by omega) (show 0 ≤ 0 by omega) d_Mo_roots_19
set_option maxHeartbeats 4000000 in
set_option maxRecDepth 100000 in
theorem c_Mo_repeated_1 (l : Launch) (K : pw_K) (f : pw_F) (a sz : Nat) (th wr : Int32) (L Z S G P Ex O T V : Nat → Int32) (hm : mo K f a th wr L Z S G P Ex O T V) (p0 : Int32) (hc : p0 < 0 ∨ ¬ p0 < 2)  : pw_C l K y_Mo_repeated b_Mo_repeated 2 (some .int) (rmk 3 0 0) f [.ref a, .int p0] sz (moQ K f a 1 wr L Z S G P Ex O T V sz (some (.int 0))) := by
  refine pw_start (by decide) (Nat.le_of_ble_eq_true rfl) ?_
  intro p e s m args below meth c ls X hr hin hz hS hl
  have hl : lv_has ls 2 [(0, .ref a), (1, .int p0)] := hl
  have hx := X.1
  have hb := X.2.1
  generalize s.heap = H0 at hz hS ⊢
  generalize ([] : List Loc) = lc0 at hS ⊢
  refine lv_aload_n hx hb d_Mo_repeated_0 rfl (lv_at hl 0 rfl) ?_
  refine lv_iload_n hx hb d_Mo_repeated_1 rfl (lv_at hl 1 rfl) ?_
  refine lv_iconst (v := 1) hx hb d_Mo_repeated_2 (by decide) ?_
  refine pw_callV X hS (As := [.int p0, .int 1]) (rest := []) (c_Mo_stops_1 l K f a sz th wr L Z S G P Ex O T V hm p0 1 (Or.inl hc)) hz w_cd_Mo_stops w_ini_Mo w_ml_Mo_153 w_im_Mo_stops w_se_Mo_stops (hm.1) rfl hd_Mo_stops rfl hl.1 (Nat.le_of_ble_eq_true rfl) d_Mo_repeated_3 ⟨Nat.le_of_ble_eq_true rfl, Nat.le_of_ble_eq_true rfl⟩ ⟨show 0 + 0 ≤ 0 by omega, show 0 + 0 ≤ 0 by omega⟩ (fun v f1 H1 lc1 hp hS1 => ?_)
  refine W.cs (cells' := 0) (slots' := 0) rfl rfl ?_
  clear hS hz
  obtain ⟨rfl, hz1, hm1, hq1⟩ := hp
  refine lv_if_ne (tgt := 18) hx hb d_Mo_repeated_6 (by decide) (fun _ => ?_) (fun cw => absurd cw (by decide))
  refine lv_iconst (v := 0) hx hb d_Mo_repeated_18 (by decide) ?_
  refine lv_goto (tgt := 37) hx hb d_Mo_repeated_19 (by decide) ?_
  exact pw_iret X hS1 hr ⟨rfl, hz1, hm1, hq1⟩ (show 0 ≤ 0 by omega) (show 0 ≤ 0 by omega) d_Mo_repeated_37
set_option maxHeartbeats 4000000 in
set_option maxRecDepth 100000 in
theorem c_Mo_repeated_2 (l : Launch) (K : pw_K) (f : pw_F) (a sz : Nat) (th wr : Int32) (L Z S G P Ex O T V : Nat → Int32) (hm : mo K f a th wr L Z S G P Ex O T V) (j : Nat) (hj : j < 2) (hdg : G j < 0)  : pw_C l K y_Mo_repeated b_Mo_repeated 2 (some .int) (rmk 3 0 0) f [.ref a, .int (nI j)] sz (moQ K f a 2 wr L Z S G P Ex O T V sz (some (.int 0))) := by
  refine pw_start (by decide) (Nat.le_of_ble_eq_true rfl) ?_
  intro p e s m args below meth c ls X hr hin hz hS hl
  have hl : lv_has ls 2 [(0, .ref a), (1, .int (nI j))] := hl
  have hx := X.1
  have hb := X.2.1
  generalize s.heap = H0 at hz hS ⊢
  generalize ([] : List Loc) = lc0 at hS ⊢
  refine lv_aload_n hx hb d_Mo_repeated_0 rfl (lv_at hl 0 rfl) ?_
  refine lv_iload_n hx hb d_Mo_repeated_1 rfl (lv_at hl 1 rfl) ?_
  refine lv_iconst (v := 1) hx hb d_Mo_repeated_2 (by decide) ?_
  refine pw_callV X hS (As := [.int (nI j), .int 1]) (rest := []) (c_Mo_stops_2 l K f a sz th wr L Z S G P Ex O T V hm j hj hdg) hz w_cd_Mo_stops w_ini_Mo w_ml_Mo_153 w_im_Mo_stops w_se_Mo_stops (hm.1) rfl hd_Mo_stops rfl hl.1 (Nat.le_of_ble_eq_true rfl) d_Mo_repeated_3 ⟨Nat.le_of_ble_eq_true rfl, Nat.le_of_ble_eq_true rfl⟩ ⟨show 0 + 0 ≤ 0 by omega, show 0 + 0 ≤ 0 by omega⟩ (fun v f1 H1 lc1 hp hS1 => ?_)
  refine W.cs (cells' := 0) (slots' := 0) rfl rfl ?_
  clear hS hz
  obtain ⟨rfl, hz1, hm1, hq1⟩ := hp
  refine lv_if_ne (tgt := 18) hx hb d_Mo_repeated_6 (by decide) (fun _ => ?_) (fun cw => absurd cw (by decide))
  refine lv_iconst (v := 0) hx hb d_Mo_repeated_18 (by decide) ?_
  refine lv_goto (tgt := 37) hx hb d_Mo_repeated_19 (by decide) ?_
  exact pw_iret X hS1 hr ⟨rfl, hz1, hm1, hq1⟩ (show 0 ≤ 0 by omega) (show 0 ≤ 0 by omega) d_Mo_repeated_37
set_option maxHeartbeats 4000000 in
set_option maxRecDepth 100000 in
theorem c_Mo_apart_1 (l : Launch) (K : pw_K) (f : pw_F) (a sz : Nat) (th wr : Int32) (L Z S G P Ex O T V : Nat → Int32) (hm : mo K f a th wr L Z S G P Ex O T V) (p0 : Int32) (hc : p0 < 0 ∨ ¬ p0 < 2)  : pw_C l K y_Mo_apart b_Mo_apart 5 (some .int) (rmk 3 0 0) f [.ref a, .int p0] sz (moQ K f a 1 wr L Z S G P Ex O T V sz (some (.int 0))) := by
  refine pw_start (by decide) (Nat.le_of_ble_eq_true rfl) ?_
  intro p e s m args below meth c ls X hr hin hz hS hl
  have hl : lv_has ls 5 [(0, .ref a), (1, .int p0)] := hl
  have hx := X.1
  have hb := X.2.1
  generalize s.heap = H0 at hz hS ⊢
  generalize ([] : List Loc) = lc0 at hS ⊢
  refine lv_aload_n hx hb d_Mo_apart_0 rfl (lv_at hl 0 rfl) ?_
  refine lv_iload_n hx hb d_Mo_apart_1 rfl (lv_at hl 1 rfl) ?_
  refine lv_iconst (v := 1) hx hb d_Mo_apart_2 (by decide) ?_
  refine pw_callV X hS (As := [.int p0, .int 1]) (rest := []) (c_Mo_stops_1 l K f a sz th wr L Z S G P Ex O T V hm p0 1 (Or.inl hc)) hz w_cd_Mo_stops w_ini_Mo w_ml_Mo_153 w_im_Mo_stops w_se_Mo_stops (hm.1) rfl hd_Mo_stops rfl hl.1 (Nat.le_of_ble_eq_true rfl) d_Mo_apart_3 ⟨Nat.le_of_ble_eq_true rfl, Nat.le_of_ble_eq_true rfl⟩ ⟨show 0 + 0 ≤ 0 by omega, show 0 + 0 ≤ 0 by omega⟩ (fun v f1 H1 lc1 hp hS1 => ?_)
  refine W.cs (cells' := 0) (slots' := 0) rfl rfl ?_
  clear hS hz
  obtain ⟨rfl, hz1, hm1, hq1⟩ := hp
  refine lv_if_eq (tgt := 11) hx hb d_Mo_apart_6 (by decide) (fun cw => absurd cw (by decide)) (fun _ => ?_)
  refine lv_iconst (v := 0) hx hb d_Mo_apart_9 (by decide) ?_
  exact pw_iret X hS1 hr ⟨rfl, hz1, hm1, hq1⟩ (show 0 ≤ 0 by omega) (show 0 ≤ 0 by omega) d_Mo_apart_10
set_option maxHeartbeats 4000000 in
set_option maxRecDepth 100000 in
theorem c_Mo_apart_2 (l : Launch) (K : pw_K) (f : pw_F) (a sz : Nat) (th wr : Int32) (L Z S G P Ex O T V : Nat → Int32) (hm : mo K f a th wr L Z S G P Ex O T V) (j : Nat) (hj : j < 2) (hdg : G j < 0)  : pw_C l K y_Mo_apart b_Mo_apart 5 (some .int) (rmk 3 0 0) f [.ref a, .int (nI j)] sz (moQ K f a 2 wr L Z S G P Ex O T V sz (some (.int 0))) := by
  refine pw_start (by decide) (Nat.le_of_ble_eq_true rfl) ?_
  intro p e s m args below meth c ls X hr hin hz hS hl
  have hl : lv_has ls 5 [(0, .ref a), (1, .int (nI j))] := hl
  have hx := X.1
  have hb := X.2.1
  generalize s.heap = H0 at hz hS ⊢
  generalize ([] : List Loc) = lc0 at hS ⊢
  refine lv_aload_n hx hb d_Mo_apart_0 rfl (lv_at hl 0 rfl) ?_
  refine lv_iload_n hx hb d_Mo_apart_1 rfl (lv_at hl 1 rfl) ?_
  refine lv_iconst (v := 1) hx hb d_Mo_apart_2 (by decide) ?_
  refine pw_callV X hS (As := [.int (nI j), .int 1]) (rest := []) (c_Mo_stops_2 l K f a sz th wr L Z S G P Ex O T V hm j hj hdg) hz w_cd_Mo_stops w_ini_Mo w_ml_Mo_153 w_im_Mo_stops w_se_Mo_stops (hm.1) rfl hd_Mo_stops rfl hl.1 (Nat.le_of_ble_eq_true rfl) d_Mo_apart_3 ⟨Nat.le_of_ble_eq_true rfl, Nat.le_of_ble_eq_true rfl⟩ ⟨show 0 + 0 ≤ 0 by omega, show 0 + 0 ≤ 0 by omega⟩ (fun v f1 H1 lc1 hp hS1 => ?_)
  refine W.cs (cells' := 0) (slots' := 0) rfl rfl ?_
  clear hS hz
  obtain ⟨rfl, hz1, hm1, hq1⟩ := hp
  refine lv_if_eq (tgt := 11) hx hb d_Mo_apart_6 (by decide) (fun cw => absurd cw (by decide)) (fun _ => ?_)
  refine lv_iconst (v := 0) hx hb d_Mo_apart_9 (by decide) ?_
  exact pw_iret X hS1 hr ⟨rfl, hz1, hm1, hq1⟩ (show 0 ≤ 0 by omega) (show 0 ≤ 0 by omega) d_Mo_apart_10
set_option maxHeartbeats 4000000 in
set_option maxRecDepth 100000 in
theorem c_Mo_multiple_1 (l : Launch) (K : pw_K) (f : pw_F) (a sz : Nat) (th wr : Int32) (L Z S G P Ex O T V : Nat → Int32) (hm : mo K f a th wr L Z S G P Ex O T V) (p0 : Int32) (hc : p0 < 0 ∨ ¬ p0 < 2) (p1 : Int32) : pw_C l K y_Mo_multiple b_Mo_multiple 5 (some .int) (rmk 3 0 0) f [.ref a, .int p0, .int p1] sz (moQ K f a 1 wr L Z S G P Ex O T V sz (some (.int 0))) := by
  refine pw_start (by decide) (Nat.le_of_ble_eq_true rfl) ?_
  intro p e s m args below meth c ls X hr hin hz hS hl
  have hl : lv_has ls 5 [(0, .ref a), (1, .int p0), (2, .int p1)] := hl
  have hx := X.1
  have hb := X.2.1
  generalize s.heap = H0 at hz hS ⊢
  generalize ([] : List Loc) = lc0 at hS ⊢
  refine lv_aload_n hx hb d_Mo_multiple_0 rfl (lv_at hl 0 rfl) ?_
  refine lv_iload_n hx hb d_Mo_multiple_1 rfl (lv_at hl 1 rfl) ?_
  refine lv_iconst (v := 1) hx hb d_Mo_multiple_2 (by decide) ?_
  refine pw_callV X hS (As := [.int p0, .int 1]) (rest := []) (c_Mo_stops_1 l K f a sz th wr L Z S G P Ex O T V hm p0 1 (Or.inl hc)) hz w_cd_Mo_stops w_ini_Mo w_ml_Mo_153 w_im_Mo_stops w_se_Mo_stops (hm.1) rfl hd_Mo_stops rfl hl.1 (Nat.le_of_ble_eq_true rfl) d_Mo_multiple_3 ⟨Nat.le_of_ble_eq_true rfl, Nat.le_of_ble_eq_true rfl⟩ ⟨show 0 + 0 ≤ 0 by omega, show 0 + 0 ≤ 0 by omega⟩ (fun v f1 H1 lc1 hp hS1 => ?_)
  refine W.cs (cells' := 0) (slots' := 0) rfl rfl ?_
  clear hS hz
  obtain ⟨rfl, hz1, hm1, hq1⟩ := hp
  refine lv_if_ne (tgt := 42) hx hb d_Mo_multiple_6 (by decide) (fun _ => ?_) (fun cw => absurd cw (by decide))
  refine lv_iconst (v := 0) hx hb d_Mo_multiple_42 (by decide) ?_
  exact pw_iret X hS1 hr ⟨rfl, hz1, hm1, hq1⟩ (show 0 ≤ 0 by omega) (show 0 ≤ 0 by omega) d_Mo_multiple_43
set_option maxHeartbeats 4000000 in
set_option maxRecDepth 100000 in
theorem c_Mo_multiple_2 (l : Launch) (K : pw_K) (f : pw_F) (a sz : Nat) (th wr : Int32) (L Z S G P Ex O T V : Nat → Int32) (hm : mo K f a th wr L Z S G P Ex O T V) (j : Nat) (hj : j < 2) (hdg : G j < 0) (p1 : Int32) : pw_C l K y_Mo_multiple b_Mo_multiple 5 (some .int) (rmk 3 0 0) f [.ref a, .int (nI j), .int p1] sz (moQ K f a 2 wr L Z S G P Ex O T V sz (some (.int 0))) := by
  refine pw_start (by decide) (Nat.le_of_ble_eq_true rfl) ?_
  intro p e s m args below meth c ls X hr hin hz hS hl
  have hl : lv_has ls 5 [(0, .ref a), (1, .int (nI j)), (2, .int p1)] := hl
  have hx := X.1
  have hb := X.2.1
  generalize s.heap = H0 at hz hS ⊢
  generalize ([] : List Loc) = lc0 at hS ⊢
  refine lv_aload_n hx hb d_Mo_multiple_0 rfl (lv_at hl 0 rfl) ?_
  refine lv_iload_n hx hb d_Mo_multiple_1 rfl (lv_at hl 1 rfl) ?_
  refine lv_iconst (v := 1) hx hb d_Mo_multiple_2 (by decide) ?_
  refine pw_callV X hS (As := [.int (nI j), .int 1]) (rest := []) (c_Mo_stops_2 l K f a sz th wr L Z S G P Ex O T V hm j hj hdg) hz w_cd_Mo_stops w_ini_Mo w_ml_Mo_153 w_im_Mo_stops w_se_Mo_stops (hm.1) rfl hd_Mo_stops rfl hl.1 (Nat.le_of_ble_eq_true rfl) d_Mo_multiple_3 ⟨Nat.le_of_ble_eq_true rfl, Nat.le_of_ble_eq_true rfl⟩ ⟨show 0 + 0 ≤ 0 by omega, show 0 + 0 ≤ 0 by omega⟩ (fun v f1 H1 lc1 hp hS1 => ?_)
  refine W.cs (cells' := 0) (slots' := 0) rfl rfl ?_
  clear hS hz
  obtain ⟨rfl, hz1, hm1, hq1⟩ := hp
  refine lv_if_ne (tgt := 42) hx hb d_Mo_multiple_6 (by decide) (fun _ => ?_) (fun cw => absurd cw (by decide))
  refine lv_iconst (v := 0) hx hb d_Mo_multiple_42 (by decide) ?_
  exact pw_iret X hS1 hr ⟨rfl, hz1, hm1, hq1⟩ (show 0 ≤ 0 by omega) (show 0 ≤ 0 by omega) d_Mo_multiple_43
set_option maxHeartbeats 4000000 in
set_option maxRecDepth 100000 in
theorem c_Mo_side_1 (l : Launch) (K : pw_K) (f : pw_F) (a sz : Nat) (th wr : Int32) (L Z S G P Ex O T V : Nat → Int32) (hm : mo K f a th wr L Z S G P Ex O T V) (p0 p1 : Int32) (q2 : Int64) (p3 : Int32) (hc : (p0 < 0 ∨ ¬ p0 < 2) ∨ ((¬ p0 < 0 ∧ p0 < 2) ∧ (p3 < 0 ∨ ¬ p3 ≤ 62))) : pw_C l K y_Mo_side b_Mo_side 6 (some .int) (rmk 3 0 0) f [.ref a, .int p0, .int p1, .long q2, .int p3] sz (moQ K f a 1 wr L Z S G P Ex O T V sz (some (.int 0))) := by
  refine pw_start (by decide) (Nat.le_of_ble_eq_true rfl) ?_
  intro p e s m args below meth c ls X hr hin hz hS hl
  have hl : lv_has ls 6 [(0, .ref a), (1, .int p0), (2, .int p1), (3, .long q2), (5, .int p3)] := hl
  have hx := X.1
  have hb := X.2.1
  generalize s.heap = H0 at hz hS ⊢
  generalize ([] : List Loc) = lc0 at hS ⊢
  refine lv_aload_n hx hb d_Mo_side_0 rfl (lv_at hl 0 rfl) ?_
  refine lv_iload_n hx hb d_Mo_side_1 rfl (lv_at hl 1 rfl) ?_
  refine lv_iload hx hb d_Mo_side_2 (lv_at hl 4 rfl) ?_
  refine lv_i2l hx hb d_Mo_side_4 rfl ?_
  refine lv_lconst (v := 0) hx hb d_Mo_side_5 (by decide) ?_
  refine pw_ldc2 X w_kl_Mo_157 d_Mo_side_6 ?_
  rcases exS p3 with h3 | h3
  · refine pw_callSR X hS (As := [.long (p3).toInt64, .long 0, .long 62]) (rest := [.int p0, .ref a]) (r_Mo_in1 l K f sz p3.toInt64 0 62 (iOk (h2 := 62) (by decide) h3.1 h3.2)) hz w_cd_Mo_in w_ini_Mo w_ml_Mo_140 w_st_Mo_in hd_Mo_in rfl hl.1 (Nat.le_of_ble_eq_true rfl) d_Mo_side_9 ⟨Nat.le_of_ble_eq_true rfl, Nat.le_of_ble_eq_true rfl⟩ ⟨show 0 ≤ 0 by omega, show 0 ≤ 0 by omega⟩ ?_
    refine pw_callV X hS (As := [.int p0, .int 1]) (rest := []) (c_Mo_stops_1 l K f a sz th wr L Z S G P Ex O T V hm p0 1 (Or.inl (hc.elim (fun q => q) (fun q => absurd h3 (fun z => q.2.elim z.1 (fun y => y z.2)))))) hz w_cd_Mo_stops w_ini_Mo w_ml_Mo_153 w_im_Mo_stops w_se_Mo_stops (hm.1) rfl hd_Mo_stops rfl hl.1 (Nat.le_of_ble_eq_true rfl) d_Mo_side_12 ⟨Nat.le_of_ble_eq_true rfl, Nat.le_of_ble_eq_true rfl⟩ ⟨show 0 + 0 ≤ 0 by omega, show 0 + 0 ≤ 0 by omega⟩ (fun v f1 H1 lc1 hp hS1 => ?_)
    refine W.cs (cells' := 0) (slots' := 0) rfl rfl ?_
    clear hS hz
    obtain ⟨rfl, hz1, hm1, hq1⟩ := hp
    refine lv_if_ne (tgt := 51) hx hb d_Mo_side_15 (by decide) (fun _ => ?_) (fun cw => absurd cw (by decide))
    refine lv_iconst (v := 0) hx hb d_Mo_side_51 (by decide) ?_
    exact pw_iret X hS1 hr ⟨rfl, hz1, hm1, hq1⟩ (show 0 ≤ 0 by omega) (show 0 ≤ 0 by omega) d_Mo_side_52
  · refine pw_callSR X hS (As := [.long (p3).toInt64, .long 0, .long 62]) (rest := [.int p0, .ref a]) (r_Mo_in0 l K f sz p3.toInt64 0 62 (iBad (h2 := 62) (by decide) h3)) hz w_cd_Mo_in w_ini_Mo w_ml_Mo_140 w_st_Mo_in hd_Mo_in rfl hl.1 (Nat.le_of_ble_eq_true rfl) d_Mo_side_9 ⟨Nat.le_of_ble_eq_true rfl, Nat.le_of_ble_eq_true rfl⟩ ⟨show 0 ≤ 0 by omega, show 0 ≤ 0 by omega⟩ ?_
    refine pw_callV X hS (As := [.int p0, .int 0]) (rest := []) (c_Mo_stops_1 l K f a sz th wr L Z S G P Ex O T V hm p0 0 (hc.elim Or.inl (fun q => Or.inr ⟨q.1, rfl⟩))) hz w_cd_Mo_stops w_ini_Mo w_ml_Mo_153 w_im_Mo_stops w_se_Mo_stops (hm.1) rfl hd_Mo_stops rfl hl.1 (Nat.le_of_ble_eq_true rfl) d_Mo_side_12 ⟨Nat.le_of_ble_eq_true rfl, Nat.le_of_ble_eq_true rfl⟩ ⟨show 0 + 0 ≤ 0 by omega, show 0 + 0 ≤ 0 by omega⟩ (fun v f1 H1 lc1 hp hS1 => ?_)
    refine W.cs (cells' := 0) (slots' := 0) rfl rfl ?_
    clear hS hz
    obtain ⟨rfl, hz1, hm1, hq1⟩ := hp
    refine lv_if_ne (tgt := 51) hx hb d_Mo_side_15 (by decide) (fun _ => ?_) (fun cw => absurd cw (by decide))
    refine lv_iconst (v := 0) hx hb d_Mo_side_51 (by decide) ?_
    exact pw_iret X hS1 hr ⟨rfl, hz1, hm1, hq1⟩ (show 0 ≤ 0 by omega) (show 0 ≤ 0 by omega) d_Mo_side_52
set_option maxHeartbeats 4000000 in
set_option maxRecDepth 100000 in
theorem c_Mo_side_2 (l : Launch) (K : pw_K) (f : pw_F) (a sz : Nat) (th wr : Int32) (L Z S G P Ex O T V : Nat → Int32) (hm : mo K f a th wr L Z S G P Ex O T V) (j : Nat) (hj : j < 2) (hdg : G j < 0) (p1 : Int32) (q2 : Int64) (p3 : Int32) (e0 : ¬ p3 < 0) (e1 : p3 ≤ 62) : pw_C l K y_Mo_side b_Mo_side 6 (some .int) (rmk 3 0 0) f [.ref a, .int (nI j), .int p1, .long q2, .int p3] sz (moQ K f a 2 wr L Z S G P Ex O T V sz (some (.int 0))) := by
  refine pw_start (by decide) (Nat.le_of_ble_eq_true rfl) ?_
  intro p e s m args below meth c ls X hr hin hz hS hl
  have hl : lv_has ls 6 [(0, .ref a), (1, .int (nI j)), (2, .int p1), (3, .long q2), (5, .int p3)] := hl
  have hx := X.1
  have hb := X.2.1
  generalize s.heap = H0 at hz hS ⊢
  generalize ([] : List Loc) = lc0 at hS ⊢
  refine lv_aload_n hx hb d_Mo_side_0 rfl (lv_at hl 0 rfl) ?_
  refine lv_iload_n hx hb d_Mo_side_1 rfl (lv_at hl 1 rfl) ?_
  refine lv_iload hx hb d_Mo_side_2 (lv_at hl 4 rfl) ?_
  refine lv_i2l hx hb d_Mo_side_4 rfl ?_
  refine lv_lconst (v := 0) hx hb d_Mo_side_5 (by decide) ?_
  refine pw_ldc2 X w_kl_Mo_157 d_Mo_side_6 ?_
  refine pw_callSR X hS (As := [.long (p3).toInt64, .long 0, .long 62]) (rest := [.int (nI j), .ref a]) (r_Mo_in1 l K f sz p3.toInt64 0 62 (iOk (h2 := 62) (by decide) e0 e1)) hz w_cd_Mo_in w_ini_Mo w_ml_Mo_140 w_st_Mo_in hd_Mo_in rfl hl.1 (Nat.le_of_ble_eq_true rfl) d_Mo_side_9 ⟨Nat.le_of_ble_eq_true rfl, Nat.le_of_ble_eq_true rfl⟩ ⟨show 0 ≤ 0 by omega, show 0 ≤ 0 by omega⟩ ?_
  refine pw_callV X hS (As := [.int (nI j), .int 1]) (rest := []) (c_Mo_stops_2 l K f a sz th wr L Z S G P Ex O T V hm j hj hdg) hz w_cd_Mo_stops w_ini_Mo w_ml_Mo_153 w_im_Mo_stops w_se_Mo_stops (hm.1) rfl hd_Mo_stops rfl hl.1 (Nat.le_of_ble_eq_true rfl) d_Mo_side_12 ⟨Nat.le_of_ble_eq_true rfl, Nat.le_of_ble_eq_true rfl⟩ ⟨show 0 + 0 ≤ 0 by omega, show 0 + 0 ≤ 0 by omega⟩ (fun v f1 H1 lc1 hp hS1 => ?_)
  refine W.cs (cells' := 0) (slots' := 0) rfl rfl ?_
  clear hS hz
  obtain ⟨rfl, hz1, hm1, hq1⟩ := hp
  refine lv_if_ne (tgt := 51) hx hb d_Mo_side_15 (by decide) (fun _ => ?_) (fun cw => absurd cw (by decide))
  refine lv_iconst (v := 0) hx hb d_Mo_side_51 (by decide) ?_
  exact pw_iret X hS1 hr ⟨rfl, hz1, hm1, hq1⟩ (show 0 ≤ 0 by omega) (show 0 ≤ 0 by omega) d_Mo_side_52
set_option maxHeartbeats 4000000 in
set_option maxRecDepth 100000 in
theorem c_Mo_sign_1 (l : Launch) (K : pw_K) (f : pw_F) (a sz : Nat) (th wr : Int32) (L Z S G P Ex O T V : Nat → Int32) (hm : mo K f a th wr L Z S G P Ex O T V) (p0 : Int32) (q1 : Int64) (p2 : Int32) (hc : (p0 < 0 ∨ ¬ p0 < 2) ∨ ((¬ p0 < 0 ∧ p0 < 2) ∧ (p2 < 0 ∨ ¬ p2 ≤ 62))) : pw_C l K y_Mo_sign b_Mo_sign 5 (some .int) (rmk 3 0 0) f [.ref a, .int p0, .long q1, .int p2] sz (moQ K f a 1 wr L Z S G P Ex O T V sz (some (.int 0))) := by
  refine pw_start (by decide) (Nat.le_of_ble_eq_true rfl) ?_
  intro p e s m args below meth c ls X hr hin hz hS hl
  have hl : lv_has ls 5 [(0, .ref a), (1, .int p0), (2, .long q1), (4, .int p2)] := hl
  have hx := X.1
  have hb := X.2.1
  generalize s.heap = H0 at hz hS ⊢
  generalize ([] : List Loc) = lc0 at hS ⊢
  refine lv_aload_n hx hb d_Mo_sign_0 rfl (lv_at hl 0 rfl) ?_
  refine lv_iload_n hx hb d_Mo_sign_1 rfl (lv_at hl 1 rfl) ?_
  refine lv_i2l hx hb d_Mo_sign_2 rfl ?_
  refine lv_lconst (v := 0) hx hb d_Mo_sign_3 (by decide) ?_
  refine lv_lconst (v := 1) hx hb d_Mo_sign_4 (by decide) ?_
  rcases hc with hc | hc
  · refine pw_callSR X hS (As := [.long (p0).toInt64, .long 0, .long 1]) (rest := [.ref a]) (r_Mo_in0 l K f sz p0.toInt64 0 1 (iBad (h2 := 1) (by decide) (hc.elim Or.inl (fun q => Or.inr (fun z => q (p_le.mpr z)))))) hz w_cd_Mo_in w_ini_Mo w_ml_Mo_140 w_st_Mo_in hd_Mo_in rfl hl.1 (Nat.le_of_ble_eq_true rfl) d_Mo_sign_5 ⟨Nat.le_of_ble_eq_true rfl, Nat.le_of_ble_eq_true rfl⟩ ⟨show 0 ≤ 0 by omega, show 0 ≤ 0 by omega⟩ ?_
    refine lv_if_eq (tgt := 24) hx hb d_Mo_sign_8 (by decide) (fun _ => ?_) (fun cw => absurd cw (by decide))
    refine lv_iconst (v := 1) hx hb d_Mo_sign_24 (by decide) ?_
    refine lv_goto (tgt := 29) hx hb d_Mo_sign_25 (by decide) ?_
    refine lv_iconst (v := 1) hx hb d_Mo_sign_29 (by decide) ?_
    refine pw_callV X hS (As := [.int 1, .int 1]) (rest := []) (c_Mo_fails l K f a sz th wr L Z S G P Ex O T V hm 1 1 1 (by decide)) hz w_cd_Mo_fails w_ini_Mo w_ml_Mo_146 w_im_Mo_fails w_se_Mo_fails (hm.1) rfl hd_Mo_fails rfl hl.1 (Nat.le_of_ble_eq_true rfl) d_Mo_sign_30 ⟨Nat.le_of_ble_eq_true rfl, Nat.le_of_ble_eq_true rfl⟩ ⟨show 0 + 0 ≤ 0 by omega, show 0 + 0 ≤ 0 by omega⟩ (fun v f1 H1 lc1 hp hS1 => ?_)
    refine W.cs (cells' := 0) (slots' := 0) rfl rfl ?_
    clear hS hz
    obtain ⟨rfl, hz1, hm1, hq1⟩ := hp
    refine lv_if_ne (tgt := 60) hx hb d_Mo_sign_33 (by decide) (fun _ => ?_) (fun cw => absurd cw (by decide))
    refine lv_iconst (v := 0) hx hb d_Mo_sign_60 (by decide) ?_
    exact pw_iret X hS1 hr ⟨rfl, hz1, hm1, hq1⟩ (show 0 ≤ 0 by omega) (show 0 ≤ 0 by omega) d_Mo_sign_61
  · refine pw_callSR X hS (As := [.long (p0).toInt64, .long 0, .long 1]) (rest := [.ref a]) (r_Mo_in1 l K f sz p0.toInt64 0 1 (iOk (h2 := 1) (by decide) hc.1.1 (p_le.mp hc.1.2))) hz w_cd_Mo_in w_ini_Mo w_ml_Mo_140 w_st_Mo_in hd_Mo_in rfl hl.1 (Nat.le_of_ble_eq_true rfl) d_Mo_sign_5 ⟨Nat.le_of_ble_eq_true rfl, Nat.le_of_ble_eq_true rfl⟩ ⟨show 0 ≤ 0 by omega, show 0 ≤ 0 by omega⟩ ?_
    refine lv_if_eq (tgt := 24) hx hb d_Mo_sign_8 (by decide) (fun cw => absurd cw (by decide)) (fun _ => ?_)
    refine lv_iload hx hb d_Mo_sign_11 (lv_at hl 3 rfl) ?_
    refine lv_i2l hx hb d_Mo_sign_13 rfl ?_
    refine lv_lconst (v := 0) hx hb d_Mo_sign_14 (by decide) ?_
    refine pw_ldc2 X w_kl_Mo_157 d_Mo_sign_15 ?_
    refine pw_callSR X hS (As := [.long (p2).toInt64, .long 0, .long 62]) (rest := [.ref a]) (r_Mo_in0 l K f sz p2.toInt64 0 62 (iBad (h2 := 62) (by decide) hc.2)) hz w_cd_Mo_in w_ini_Mo w_ml_Mo_140 w_st_Mo_in hd_Mo_in rfl hl.1 (Nat.le_of_ble_eq_true rfl) d_Mo_sign_18 ⟨Nat.le_of_ble_eq_true rfl, Nat.le_of_ble_eq_true rfl⟩ ⟨show 0 ≤ 0 by omega, show 0 ≤ 0 by omega⟩ ?_
    refine lv_if_ne (tgt := 28) hx hb d_Mo_sign_21 (by decide) (fun cw => absurd cw (by decide)) (fun _ => ?_)
    refine lv_iconst (v := 1) hx hb d_Mo_sign_24 (by decide) ?_
    refine lv_goto (tgt := 29) hx hb d_Mo_sign_25 (by decide) ?_
    refine lv_iconst (v := 1) hx hb d_Mo_sign_29 (by decide) ?_
    refine pw_callV X hS (As := [.int 1, .int 1]) (rest := []) (c_Mo_fails l K f a sz th wr L Z S G P Ex O T V hm 1 1 1 (by decide)) hz w_cd_Mo_fails w_ini_Mo w_ml_Mo_146 w_im_Mo_fails w_se_Mo_fails (hm.1) rfl hd_Mo_fails rfl hl.1 (Nat.le_of_ble_eq_true rfl) d_Mo_sign_30 ⟨Nat.le_of_ble_eq_true rfl, Nat.le_of_ble_eq_true rfl⟩ ⟨show 0 + 0 ≤ 0 by omega, show 0 + 0 ≤ 0 by omega⟩ (fun v f1 H1 lc1 hp hS1 => ?_)
    refine W.cs (cells' := 0) (slots' := 0) rfl rfl ?_
    clear hS hz
    obtain ⟨rfl, hz1, hm1, hq1⟩ := hp
    refine lv_if_ne (tgt := 60) hx hb d_Mo_sign_33 (by decide) (fun _ => ?_) (fun cw => absurd cw (by decide))
    refine lv_iconst (v := 0) hx hb d_Mo_sign_60 (by decide) ?_
    exact pw_iret X hS1 hr ⟨rfl, hz1, hm1, hq1⟩ (show 0 ≤ 0 by omega) (show 0 ≤ 0 by omega) d_Mo_sign_61
set_option maxHeartbeats 4000000 in
set_option maxRecDepth 100000 in
theorem c_Mo_sign_2 (l : Launch) (K : pw_K) (f : pw_F) (a sz : Nat) (th wr : Int32) (L Z S G P Ex O T V : Nat → Int32) (hm : mo K f a th wr L Z S G P Ex O T V) (j : Nat) (hj : j < 2) (hdg : G j < 0) (q1 : Int64) (p2 : Int32) (e0 : ¬ p2 < 0) (e1 : p2 ≤ 62) : pw_C l K y_Mo_sign b_Mo_sign 5 (some .int) (rmk 3 0 0) f [.ref a, .int (nI j), .long q1, .int p2] sz (moQ K f a 2 wr L Z S G P Ex O T V sz (some (.int 0))) := by
  refine pw_start (by decide) (Nat.le_of_ble_eq_true rfl) ?_
  intro p e s m args below meth c ls X hr hin hz hS hl
  have hl : lv_has ls 5 [(0, .ref a), (1, .int (nI j)), (2, .long q1), (4, .int p2)] := hl
  have hx := X.1
  have hb := X.2.1
  generalize s.heap = H0 at hz hS ⊢
  generalize ([] : List Loc) = lc0 at hS ⊢
  refine lv_aload_n hx hb d_Mo_sign_0 rfl (lv_at hl 0 rfl) ?_
  refine lv_iload_n hx hb d_Mo_sign_1 rfl (lv_at hl 1 rfl) ?_
  refine lv_i2l hx hb d_Mo_sign_2 rfl ?_
  refine lv_lconst (v := 0) hx hb d_Mo_sign_3 (by decide) ?_
  refine lv_lconst (v := 1) hx hb d_Mo_sign_4 (by decide) ?_
  refine pw_callSR X hS (As := [.long ((nI j)).toInt64, .long 0, .long 1]) (rest := [.ref a]) (r_Mo_in1 l K f sz ((nI j).toInt64) 0 1 (iOk (h2 := 1) (by decide) (nI_pos (by omega)) (nI_le (b := 1) (by omega) (by omega)))) hz w_cd_Mo_in w_ini_Mo w_ml_Mo_140 w_st_Mo_in hd_Mo_in rfl hl.1 (Nat.le_of_ble_eq_true rfl) d_Mo_sign_5 ⟨Nat.le_of_ble_eq_true rfl, Nat.le_of_ble_eq_true rfl⟩ ⟨show 0 ≤ 0 by omega, show 0 ≤ 0 by omega⟩ ?_
  refine lv_if_eq (tgt := 24) hx hb d_Mo_sign_8 (by decide) (fun cw => absurd cw (by decide)) (fun _ => ?_)
  refine lv_iload hx hb d_Mo_sign_11 (lv_at hl 3 rfl) ?_
  refine lv_i2l hx hb d_Mo_sign_13 rfl ?_
  refine lv_lconst (v := 0) hx hb d_Mo_sign_14 (by decide) ?_
  refine pw_ldc2 X w_kl_Mo_157 d_Mo_sign_15 ?_
  refine pw_callSR X hS (As := [.long (p2).toInt64, .long 0, .long 62]) (rest := [.ref a]) (r_Mo_in1 l K f sz p2.toInt64 0 62 (iOk (h2 := 62) (by decide) e0 e1)) hz w_cd_Mo_in w_ini_Mo w_ml_Mo_140 w_st_Mo_in hd_Mo_in rfl hl.1 (Nat.le_of_ble_eq_true rfl) d_Mo_sign_18 ⟨Nat.le_of_ble_eq_true rfl, Nat.le_of_ble_eq_true rfl⟩ ⟨show 0 ≤ 0 by omega, show 0 ≤ 0 by omega⟩ ?_
  refine lv_if_ne (tgt := 28) hx hb d_Mo_sign_21 (by decide) (fun _ => ?_) (fun cw => absurd cw (by decide))
  refine lv_iconst (v := 0) hx hb d_Mo_sign_28 (by decide) ?_
  refine lv_iconst (v := 1) hx hb d_Mo_sign_29 (by decide) ?_
  refine pw_callV X hS (As := [.int 0, .int 1]) (rest := []) (c_Mo_fails l K f a sz th wr L Z S G P Ex O T V hm 0 1 0 (by decide)) hz w_cd_Mo_fails w_ini_Mo w_ml_Mo_146 w_im_Mo_fails w_se_Mo_fails (hm.1) rfl hd_Mo_fails rfl hl.1 (Nat.le_of_ble_eq_true rfl) d_Mo_sign_30 ⟨Nat.le_of_ble_eq_true rfl, Nat.le_of_ble_eq_true rfl⟩ ⟨show 0 + 0 ≤ 0 by omega, show 0 + 0 ≤ 0 by omega⟩ (fun v f1 H1 lc1 hp hS1 => ?_)
  refine W.cs (cells' := 0) (slots' := 0) rfl rfl ?_
  clear hS hz
  obtain ⟨rfl, hz1, hm1, hq1⟩ := hp
  refine lv_if_ne (tgt := 60) hx hb d_Mo_sign_33 (by decide) (fun cw => absurd cw (by decide)) (fun _ => ?_)
  refine lv_aload_n hx hb d_Mo_sign_36 rfl (lv_at hl 0 rfl) ?_
  refine lv_aload_n hx hb d_Mo_sign_37 rfl (lv_at hl 0 rfl) ?_
  refine pw_get X hS1 (hm1.1) pc_Mo 4 (by decide) w_fl_Mo_20 rfl (v := .ref (a + 4)) rfl d_Mo_sign_38 ?_
  refine lv_iload_n hx hb d_Mo_sign_41 rfl (lv_at hl 1 rfl) ?_
  refine lv_iconst (v := 1) hx hb d_Mo_sign_42 (by decide) ?_
  refine lv_iand hx hb d_Mo_sign_43 ?_
  refine lv_topi (fun yy ey => ?_)
  obtain rfl : yy = nI j := by rw [ey]; exact jand1 hj
  clear ey
  refine pw_ild X hS1 (hm1.2.2.2.2.1) (vp_in_nI (by omega) (by omega)) d_Mo_sign_44 ?_
  refine lv_topi (fun yy ey => ?_)
  obtain rfl : yy = G j := by rw [ey]; rw [nI_clamp (by omega)]
  clear ey
  refine lv_if_ge (tgt := 52) hx hb d_Mo_sign_45 (by decide) (fun cw => absurd cw (Int32.not_le.mpr hdg)) (fun _ => ?_)
  refine lv_iconst (v := 1) hx hb d_Mo_sign_48 (by decide) ?_
  refine lv_goto (tgt := 53) hx hb d_Mo_sign_49 (by decide) ?_
  refine lv_iconst (v := 2) hx hb d_Mo_sign_53 (by decide) ?_
  refine pw_callV X hS1 (As := [.int 1, .int 2]) (rest := []) (c_Mo_fails l K f1 a sz 0 wr L Z S G P Ex O T V hm1 1 2 2 (by decide)) hz1 w_cd_Mo_fails w_ini_Mo w_ml_Mo_146 w_im_Mo_fails w_se_Mo_fails (hm1.1) rfl hd_Mo_fails rfl hl.1 (Nat.le_of_ble_eq_true rfl) d_Mo_sign_54 ⟨Nat.le_of_ble_eq_true rfl, Nat.le_of_ble_eq_true rfl⟩ ⟨show 0 + 0 ≤ 0 by omega, show 0 + 0 ≤ 0 by omega⟩ (fun v f2 H2 lc2 hp hS2 => ?_)
  refine W.cs (cells' := 0) (slots' := 0) rfl rfl ?_
  clear hS1 hz1
  obtain ⟨rfl, hz2, hm2, hq2⟩ := hp
  refine lv_if_eq (tgt := 62) hx hb d_Mo_sign_57 (by decide) (fun cw => absurd cw (by decide)) (fun _ => ?_)
  refine lv_iconst (v := 0) hx hb d_Mo_sign_60 (by decide) ?_
  exact pw_iret X hS2 hr ⟨rfl, hz2, hm2, fun q hq => (hq2 q hq).trans (hq1 q hq)⟩ (show 0 ≤ 0 by omega) (show 0 ≤ 0 by omega) d_Mo_sign_61
set_option maxHeartbeats 4000000 in
set_option maxRecDepth 100000 in
theorem c_Mo_between_1 (l : Launch) (K : pw_K) (f : pw_F) (a sz : Nat) (th wr : Int32) (L Z S G P Ex O T V : Nat → Int32) (hm : mo K f a th wr L Z S G P Ex O T V) (p0 : Int32) (q1 : Int64) (p2 : Int32) (q3 : Int64) (p4 : Int32) (hc : (p0 < 0 ∨ ¬ p0 < 2) ∨ ((¬ p0 < 0 ∧ p0 < 2) ∧ ((p2 < 0 ∨ ¬ p2 ≤ 62) ∨ (p4 < 0 ∨ ¬ p4 ≤ 62)))) : pw_C l K y_Mo_between b_Mo_between 10 (some .int) (rmk 3 0 0) f [.ref a, .int p0, .long q1, .int p2, .long q3, .int p4] sz (moQ K f a 1 wr L Z S G P Ex O T V sz (some (.int 0))) := by
  refine pw_start (by decide) (Nat.le_of_ble_eq_true rfl) ?_
  intro p e s m args below meth c ls X hr hin hz hS hl
  have hl : lv_has ls 10 [(0, .ref a), (1, .int p0), (2, .long q1), (4, .int p2), (5, .long q3), (7, .int p4)] := hl
  have hx := X.1
  have hb := X.2.1
  generalize s.heap = H0 at hz hS ⊢
  generalize ([] : List Loc) = lc0 at hS ⊢
  refine lv_aload_n hx hb d_Mo_between_0 rfl (lv_at hl 0 rfl) ?_
  refine lv_iload_n hx hb d_Mo_between_1 rfl (lv_at hl 1 rfl) ?_
  refine lv_iload hx hb d_Mo_between_2 (lv_at hl 3 rfl) ?_
  refine lv_i2l hx hb d_Mo_between_4 rfl ?_
  refine lv_lconst (v := 0) hx hb d_Mo_between_5 (by decide) ?_
  refine pw_ldc2 X w_kl_Mo_157 d_Mo_between_6 ?_
  rcases exS p2 with h2 | h2
  · refine pw_callSR X hS (As := [.long (p2).toInt64, .long 0, .long 62]) (rest := [.int p0, .ref a]) (r_Mo_in1 l K f sz p2.toInt64 0 62 (iOk (h2 := 62) (by decide) h2.1 h2.2)) hz w_cd_Mo_in w_ini_Mo w_ml_Mo_140 w_st_Mo_in hd_Mo_in rfl hl.1 (Nat.le_of_ble_eq_true rfl) d_Mo_between_9 ⟨Nat.le_of_ble_eq_true rfl, Nat.le_of_ble_eq_true rfl⟩ ⟨show 0 ≤ 0 by omega, show 0 ≤ 0 by omega⟩ ?_
    refine lv_if_eq (tgt := 32) hx hb d_Mo_between_12 (by decide) (fun cw => absurd cw (by decide)) (fun _ => ?_)
    refine lv_iload hx hb d_Mo_between_15 (lv_at hl 5 rfl) ?_
    refine lv_i2l hx hb d_Mo_between_17 rfl ?_
    refine lv_lconst (v := 0) hx hb d_Mo_between_18 (by decide) ?_
    refine pw_ldc2 X w_kl_Mo_157 d_Mo_between_19 ?_
    rcases exS p4 with h4 | h4
    · refine pw_callSR X hS (As := [.long (p4).toInt64, .long 0, .long 62]) (rest := [.int p0, .ref a]) (r_Mo_in1 l K f sz p4.toInt64 0 62 (iOk (h2 := 62) (by decide) h4.1 h4.2)) hz w_cd_Mo_in w_ini_Mo w_ml_Mo_140 w_st_Mo_in hd_Mo_in rfl hl.1 (Nat.le_of_ble_eq_true rfl) d_Mo_between_22 ⟨Nat.le_of_ble_eq_true rfl, Nat.le_of_ble_eq_true rfl⟩ ⟨show 0 ≤ 0 by omega, show 0 ≤ 0 by omega⟩ ?_
      refine lv_if_eq (tgt := 32) hx hb d_Mo_between_25 (by decide) (fun cw => absurd cw (by decide)) (fun _ => ?_)
      refine lv_iconst (v := 1) hx hb d_Mo_between_28 (by decide) ?_
      refine lv_goto (tgt := 33) hx hb d_Mo_between_29 (by decide) ?_
      refine pw_callV X hS (As := [.int p0, .int 1]) (rest := []) (c_Mo_stops_1 l K f a sz th wr L Z S G P Ex O T V hm p0 1 (Or.inl (hc.elim (fun q => q) (fun q => q.2.elim (fun y => absurd h2 (fun z => y.elim z.1 (fun x => x z.2))) (fun y => absurd h4 (fun z => y.elim z.1 (fun x => x z.2))))))) hz w_cd_Mo_stops w_ini_Mo w_ml_Mo_153 w_im_Mo_stops w_se_Mo_stops (hm.1) rfl hd_Mo_stops rfl hl.1 (Nat.le_of_ble_eq_true rfl) d_Mo_between_33 ⟨Nat.le_of_ble_eq_true rfl, Nat.le_of_ble_eq_true rfl⟩ ⟨show 0 + 0 ≤ 0 by omega, show 0 + 0 ≤ 0 by omega⟩ (fun v f1 H1 lc1 hp hS1 => ?_)
      refine W.cs (cells' := 0) (slots' := 0) rfl rfl ?_
      clear hS hz
      obtain ⟨rfl, hz1, hm1, hq1⟩ := hp
      refine lv_if_eq (tgt := 41) hx hb d_Mo_between_36 (by decide) (fun cw => absurd cw (by decide)) (fun _ => ?_)
      refine lv_iconst (v := 0) hx hb d_Mo_between_39 (by decide) ?_
      exact pw_iret X hS1 hr ⟨rfl, hz1, hm1, hq1⟩ (show 0 ≤ 0 by omega) (show 0 ≤ 0 by omega) d_Mo_between_40
    · refine pw_callSR X hS (As := [.long (p4).toInt64, .long 0, .long 62]) (rest := [.int p0, .ref a]) (r_Mo_in0 l K f sz p4.toInt64 0 62 (iBad (h2 := 62) (by decide) h4)) hz w_cd_Mo_in w_ini_Mo w_ml_Mo_140 w_st_Mo_in hd_Mo_in rfl hl.1 (Nat.le_of_ble_eq_true rfl) d_Mo_between_22 ⟨Nat.le_of_ble_eq_true rfl, Nat.le_of_ble_eq_true rfl⟩ ⟨show 0 ≤ 0 by omega, show 0 ≤ 0 by omega⟩ ?_
      refine lv_if_eq (tgt := 32) hx hb d_Mo_between_25 (by decide) (fun _ => ?_) (fun cw => absurd cw (by decide))
      refine lv_iconst (v := 0) hx hb d_Mo_between_32 (by decide) ?_
      refine pw_callV X hS (As := [.int p0, .int 0]) (rest := []) (c_Mo_stops_1 l K f a sz th wr L Z S G P Ex O T V hm p0 0 (hc.elim Or.inl (fun q => Or.inr ⟨q.1, rfl⟩))) hz w_cd_Mo_stops w_ini_Mo w_ml_Mo_153 w_im_Mo_stops w_se_Mo_stops (hm.1) rfl hd_Mo_stops rfl hl.1 (Nat.le_of_ble_eq_true rfl) d_Mo_between_33 ⟨Nat.le_of_ble_eq_true rfl, Nat.le_of_ble_eq_true rfl⟩ ⟨show 0 + 0 ≤ 0 by omega, show 0 + 0 ≤ 0 by omega⟩ (fun v f1 H1 lc1 hp hS1 => ?_)
      refine W.cs (cells' := 0) (slots' := 0) rfl rfl ?_
      clear hS hz
      obtain ⟨rfl, hz1, hm1, hq1⟩ := hp
      refine lv_if_eq (tgt := 41) hx hb d_Mo_between_36 (by decide) (fun cw => absurd cw (by decide)) (fun _ => ?_)
      refine lv_iconst (v := 0) hx hb d_Mo_between_39 (by decide) ?_
      exact pw_iret X hS1 hr ⟨rfl, hz1, hm1, hq1⟩ (show 0 ≤ 0 by omega) (show 0 ≤ 0 by omega) d_Mo_between_40
  · refine pw_callSR X hS (As := [.long (p2).toInt64, .long 0, .long 62]) (rest := [.int p0, .ref a]) (r_Mo_in0 l K f sz p2.toInt64 0 62 (iBad (h2 := 62) (by decide) h2)) hz w_cd_Mo_in w_ini_Mo w_ml_Mo_140 w_st_Mo_in hd_Mo_in rfl hl.1 (Nat.le_of_ble_eq_true rfl) d_Mo_between_9 ⟨Nat.le_of_ble_eq_true rfl, Nat.le_of_ble_eq_true rfl⟩ ⟨show 0 ≤ 0 by omega, show 0 ≤ 0 by omega⟩ ?_
    refine lv_if_eq (tgt := 32) hx hb d_Mo_between_12 (by decide) (fun _ => ?_) (fun cw => absurd cw (by decide))
    refine lv_iconst (v := 0) hx hb d_Mo_between_32 (by decide) ?_
    refine pw_callV X hS (As := [.int p0, .int 0]) (rest := []) (c_Mo_stops_1 l K f a sz th wr L Z S G P Ex O T V hm p0 0 (hc.elim Or.inl (fun q => Or.inr ⟨q.1, rfl⟩))) hz w_cd_Mo_stops w_ini_Mo w_ml_Mo_153 w_im_Mo_stops w_se_Mo_stops (hm.1) rfl hd_Mo_stops rfl hl.1 (Nat.le_of_ble_eq_true rfl) d_Mo_between_33 ⟨Nat.le_of_ble_eq_true rfl, Nat.le_of_ble_eq_true rfl⟩ ⟨show 0 + 0 ≤ 0 by omega, show 0 + 0 ≤ 0 by omega⟩ (fun v f1 H1 lc1 hp hS1 => ?_)
    refine W.cs (cells' := 0) (slots' := 0) rfl rfl ?_
    clear hS hz
    obtain ⟨rfl, hz1, hm1, hq1⟩ := hp
    refine lv_if_eq (tgt := 41) hx hb d_Mo_between_36 (by decide) (fun cw => absurd cw (by decide)) (fun _ => ?_)
    refine lv_iconst (v := 0) hx hb d_Mo_between_39 (by decide) ?_
    exact pw_iret X hS1 hr ⟨rfl, hz1, hm1, hq1⟩ (show 0 ≤ 0 by omega) (show 0 ≤ 0 by omega) d_Mo_between_40
set_option maxHeartbeats 4000000 in
set_option maxRecDepth 100000 in
theorem c_Mo_between_2 (l : Launch) (K : pw_K) (f : pw_F) (a sz : Nat) (th wr : Int32) (L Z S G P Ex O T V : Nat → Int32) (hm : mo K f a th wr L Z S G P Ex O T V) (j : Nat) (hj : j < 2) (hdg : G j < 0) (q1 : Int64) (p2 : Int32) (q3 : Int64) (p4 : Int32) (e0 : ¬ p2 < 0) (e1 : p2 ≤ 62) (e2 : ¬ p4 < 0) (e3 : p4 ≤ 62) : pw_C l K y_Mo_between b_Mo_between 10 (some .int) (rmk 3 0 0) f [.ref a, .int (nI j), .long q1, .int p2, .long q3, .int p4] sz (moQ K f a 2 wr L Z S G P Ex O T V sz (some (.int 0))) := by
  refine pw_start (by decide) (Nat.le_of_ble_eq_true rfl) ?_
  intro p e s m args below meth c ls X hr hin hz hS hl
  have hl : lv_has ls 10 [(0, .ref a), (1, .int (nI j)), (2, .long q1), (4, .int p2), (5, .long q3), (7, .int p4)] := hl
  have hx := X.1
  have hb := X.2.1
  generalize s.heap = H0 at hz hS ⊢
  generalize ([] : List Loc) = lc0 at hS ⊢
  refine lv_aload_n hx hb d_Mo_between_0 rfl (lv_at hl 0 rfl) ?_
  refine lv_iload_n hx hb d_Mo_between_1 rfl (lv_at hl 1 rfl) ?_
  refine lv_iload hx hb d_Mo_between_2 (lv_at hl 3 rfl) ?_
  refine lv_i2l hx hb d_Mo_between_4 rfl ?_
  refine lv_lconst (v := 0) hx hb d_Mo_between_5 (by decide) ?_
  refine pw_ldc2 X w_kl_Mo_157 d_Mo_between_6 ?_
  refine pw_callSR X hS (As := [.long (p2).toInt64, .long 0, .long 62]) (rest := [.int (nI j), .ref a]) (r_Mo_in1 l K f sz p2.toInt64 0 62 (iOk (h2 := 62) (by decide) e0 e1)) hz w_cd_Mo_in w_ini_Mo w_ml_Mo_140 w_st_Mo_in hd_Mo_in rfl hl.1 (Nat.le_of_ble_eq_true rfl) d_Mo_between_9 ⟨Nat.le_of_ble_eq_true rfl, Nat.le_of_ble_eq_true rfl⟩ ⟨show 0 ≤ 0 by omega, show 0 ≤ 0 by omega⟩ ?_
  refine lv_if_eq (tgt := 32) hx hb d_Mo_between_12 (by decide) (fun cw => absurd cw (by decide)) (fun _ => ?_)
  refine lv_iload hx hb d_Mo_between_15 (lv_at hl 5 rfl) ?_
  refine lv_i2l hx hb d_Mo_between_17 rfl ?_
  refine lv_lconst (v := 0) hx hb d_Mo_between_18 (by decide) ?_
  refine pw_ldc2 X w_kl_Mo_157 d_Mo_between_19 ?_
  refine pw_callSR X hS (As := [.long (p4).toInt64, .long 0, .long 62]) (rest := [.int (nI j), .ref a]) (r_Mo_in1 l K f sz p4.toInt64 0 62 (iOk (h2 := 62) (by decide) e2 e3)) hz w_cd_Mo_in w_ini_Mo w_ml_Mo_140 w_st_Mo_in hd_Mo_in rfl hl.1 (Nat.le_of_ble_eq_true rfl) d_Mo_between_22 ⟨Nat.le_of_ble_eq_true rfl, Nat.le_of_ble_eq_true rfl⟩ ⟨show 0 ≤ 0 by omega, show 0 ≤ 0 by omega⟩ ?_
  refine lv_if_eq (tgt := 32) hx hb d_Mo_between_25 (by decide) (fun cw => absurd cw (by decide)) (fun _ => ?_)
  refine lv_iconst (v := 1) hx hb d_Mo_between_28 (by decide) ?_
  refine lv_goto (tgt := 33) hx hb d_Mo_between_29 (by decide) ?_
  refine pw_callV X hS (As := [.int (nI j), .int 1]) (rest := []) (c_Mo_stops_2 l K f a sz th wr L Z S G P Ex O T V hm j hj hdg) hz w_cd_Mo_stops w_ini_Mo w_ml_Mo_153 w_im_Mo_stops w_se_Mo_stops (hm.1) rfl hd_Mo_stops rfl hl.1 (Nat.le_of_ble_eq_true rfl) d_Mo_between_33 ⟨Nat.le_of_ble_eq_true rfl, Nat.le_of_ble_eq_true rfl⟩ ⟨show 0 + 0 ≤ 0 by omega, show 0 + 0 ≤ 0 by omega⟩ (fun v f1 H1 lc1 hp hS1 => ?_)
  refine W.cs (cells' := 0) (slots' := 0) rfl rfl ?_
  clear hS hz
  obtain ⟨rfl, hz1, hm1, hq1⟩ := hp
  refine lv_if_eq (tgt := 41) hx hb d_Mo_between_36 (by decide) (fun cw => absurd cw (by decide)) (fun _ => ?_)
  refine lv_iconst (v := 0) hx hb d_Mo_between_39 (by decide) ?_
  exact pw_iret X hS1 hr ⟨rfl, hz1, hm1, hq1⟩ (show 0 ≤ 0 by omega) (show 0 ≤ 0 by omega) d_Mo_between_40
set_option maxHeartbeats 4000000 in
set_option maxRecDepth 100000 in
theorem c_Mo_floor_1 (l : Launch) (K : pw_K) (f : pw_F) (a sz : Nat) (th wr : Int32) (L Z S G P Ex O T V : Nat → Int32) (hm : mo K f a th wr L Z S G P Ex O T V) (p0 p1 p2 p3 : Int32) (hc : (p0 < 0 ∨ ¬ p0 < 2) ∨ ((¬ p0 < 0 ∧ p0 < 2) ∧ (p3 < 0 ∨ (¬ p2 = 0 ∧ ¬ p3 ≤ 90) ∨ (p2 = 0 ∧ ¬ p3 ≤ 300)))) : pw_C l K y_Mo_floor b_Mo_floor 7 (some .int) (rmk 3 0 0) f [.ref a, .int p0, .int p1, .int p2, .int p3] sz (moQ K f a 1 wr L Z S G P Ex O T V sz (some (.int 0))) := by
  refine pw_start (by decide) (Nat.le_of_ble_eq_true rfl) ?_
  intro p e s m args below meth c ls X hr hin hz hS hl
  have hl : lv_has ls 7 [(0, .ref a), (1, .int p0), (2, .int p1), (3, .int p2), (4, .int p3)] := hl
  have hx := X.1
  have hb := X.2.1
  generalize s.heap = H0 at hz hS ⊢
  generalize ([] : List Loc) = lc0 at hS ⊢
  refine lv_aload_n hx hb d_Mo_floor_0 rfl (lv_at hl 0 rfl) ?_
  refine lv_iload_n hx hb d_Mo_floor_1 rfl (lv_at hl 1 rfl) ?_
  refine lv_iload hx hb d_Mo_floor_2 (lv_at hl 4 rfl) ?_
  refine lv_i2l hx hb d_Mo_floor_4 rfl ?_
  refine lv_lconst (v := 0) hx hb d_Mo_floor_5 (by decide) ?_
  refine lv_iload_n hx hb d_Mo_floor_6 rfl (lv_at hl 3 rfl) ?_
  refine lv_if_eq (tgt := 16) hx hb d_Mo_floor_7 (by decide) (fun ct => ?_) (fun ct => ?_)
  · refine pw_ldc2 X w_kl_Mo_180 d_Mo_floor_16 ?_
    by_cases h3 : (¬ p3 < 0 ∧ p3 ≤ 300)
    · refine pw_callSR X hS (As := [.long (p3).toInt64, .long 0, .long 300]) (rest := [.int p0, .ref a]) (r_Mo_in1 l K f sz p3.toInt64 0 300 (iOk (h2 := 300) (by decide) h3.1 h3.2)) hz w_cd_Mo_in w_ini_Mo w_ml_Mo_140 w_st_Mo_in hd_Mo_in rfl hl.1 (Nat.le_of_ble_eq_true rfl) d_Mo_floor_19 ⟨Nat.le_of_ble_eq_true rfl, Nat.le_of_ble_eq_true rfl⟩ ⟨show 0 ≤ 0 by omega, show 0 ≤ 0 by omega⟩ ?_
      refine pw_callV X hS (As := [.int p0, .int 1]) (rest := []) (c_Mo_stops_1 l K f a sz th wr L Z S G P Ex O T V hm p0 1 (Or.inl (hc.elim (fun q => q) (fun q => q.2.elim (fun z => absurd z h3.1) (fun z => z.elim (fun y => absurd ct y.1) (fun y => absurd h3.2 y.2)))))) hz w_cd_Mo_stops w_ini_Mo w_ml_Mo_153 w_im_Mo_stops w_se_Mo_stops (hm.1) rfl hd_Mo_stops rfl hl.1 (Nat.le_of_ble_eq_true rfl) d_Mo_floor_22 ⟨Nat.le_of_ble_eq_true rfl, Nat.le_of_ble_eq_true rfl⟩ ⟨show 0 + 0 ≤ 0 by omega, show 0 + 0 ≤ 0 by omega⟩ (fun v f1 H1 lc1 hp hS1 => ?_)
      refine W.cs (cells' := 0) (slots' := 0) rfl rfl ?_
      clear hS hz
      obtain ⟨rfl, hz1, hm1, hq1⟩ := hp
      refine lv_if_ne (tgt := 61) hx hb d_Mo_floor_25 (by decide) (fun _ => ?_) (fun cw => absurd cw (by decide))
      refine lv_iconst (v := 0) hx hb d_Mo_floor_61 (by decide) ?_
      exact pw_iret X hS1 hr ⟨rfl, hz1, hm1, hq1⟩ (show 0 ≤ 0 by omega) (show 0 ≤ 0 by omega) d_Mo_floor_62
    · refine pw_callSR X hS (As := [.long (p3).toInt64, .long 0, .long 300]) (rest := [.int p0, .ref a]) (r_Mo_in0 l K f sz p3.toInt64 0 300 (iBad (h2 := 300) (by decide) (by by_cases h4 : p3 < 0; exact Or.inl h4; exact Or.inr (fun z => h3 ⟨h4, z⟩)))) hz w_cd_Mo_in w_ini_Mo w_ml_Mo_140 w_st_Mo_in hd_Mo_in rfl hl.1 (Nat.le_of_ble_eq_true rfl) d_Mo_floor_19 ⟨Nat.le_of_ble_eq_true rfl, Nat.le_of_ble_eq_true rfl⟩ ⟨show 0 ≤ 0 by omega, show 0 ≤ 0 by omega⟩ ?_
      refine pw_callV X hS (As := [.int p0, .int 0]) (rest := []) (c_Mo_stops_1 l K f a sz th wr L Z S G P Ex O T V hm p0 0 (hc.elim Or.inl (fun q => Or.inr ⟨q.1, rfl⟩))) hz w_cd_Mo_stops w_ini_Mo w_ml_Mo_153 w_im_Mo_stops w_se_Mo_stops (hm.1) rfl hd_Mo_stops rfl hl.1 (Nat.le_of_ble_eq_true rfl) d_Mo_floor_22 ⟨Nat.le_of_ble_eq_true rfl, Nat.le_of_ble_eq_true rfl⟩ ⟨show 0 + 0 ≤ 0 by omega, show 0 + 0 ≤ 0 by omega⟩ (fun v f1 H1 lc1 hp hS1 => ?_)
      refine W.cs (cells' := 0) (slots' := 0) rfl rfl ?_
      clear hS hz
      obtain ⟨rfl, hz1, hm1, hq1⟩ := hp
      refine lv_if_ne (tgt := 61) hx hb d_Mo_floor_25 (by decide) (fun _ => ?_) (fun cw => absurd cw (by decide))
      refine lv_iconst (v := 0) hx hb d_Mo_floor_61 (by decide) ?_
      exact pw_iret X hS1 hr ⟨rfl, hz1, hm1, hq1⟩ (show 0 ≤ 0 by omega) (show 0 ≤ 0 by omega) d_Mo_floor_62
  · refine pw_ldc2 X w_kl_Mo_178 d_Mo_floor_10 ?_
    refine lv_goto (tgt := 19) hx hb d_Mo_floor_13 (by decide) ?_
    by_cases h3 : (¬ p3 < 0 ∧ p3 ≤ 90)
    · refine pw_callSR X hS (As := [.long (p3).toInt64, .long 0, .long 90]) (rest := [.int p0, .ref a]) (r_Mo_in1 l K f sz p3.toInt64 0 90 (iOk (h2 := 90) (by decide) h3.1 h3.2)) hz w_cd_Mo_in w_ini_Mo w_ml_Mo_140 w_st_Mo_in hd_Mo_in rfl hl.1 (Nat.le_of_ble_eq_true rfl) d_Mo_floor_19 ⟨Nat.le_of_ble_eq_true rfl, Nat.le_of_ble_eq_true rfl⟩ ⟨show 0 ≤ 0 by omega, show 0 ≤ 0 by omega⟩ ?_
      refine pw_callV X hS (As := [.int p0, .int 1]) (rest := []) (c_Mo_stops_1 l K f a sz th wr L Z S G P Ex O T V hm p0 1 (Or.inl (hc.elim (fun q => q) (fun q => q.2.elim (fun z => absurd z h3.1) (fun z => z.elim (fun y => absurd h3.2 y.2) (fun y => absurd y.1 ct)))))) hz w_cd_Mo_stops w_ini_Mo w_ml_Mo_153 w_im_Mo_stops w_se_Mo_stops (hm.1) rfl hd_Mo_stops rfl hl.1 (Nat.le_of_ble_eq_true rfl) d_Mo_floor_22 ⟨Nat.le_of_ble_eq_true rfl, Nat.le_of_ble_eq_true rfl⟩ ⟨show 0 + 0 ≤ 0 by omega, show 0 + 0 ≤ 0 by omega⟩ (fun v f1 H1 lc1 hp hS1 => ?_)
      refine W.cs (cells' := 0) (slots' := 0) rfl rfl ?_
      clear hS hz
      obtain ⟨rfl, hz1, hm1, hq1⟩ := hp
      refine lv_if_ne (tgt := 61) hx hb d_Mo_floor_25 (by decide) (fun _ => ?_) (fun cw => absurd cw (by decide))
      refine lv_iconst (v := 0) hx hb d_Mo_floor_61 (by decide) ?_
      exact pw_iret X hS1 hr ⟨rfl, hz1, hm1, hq1⟩ (show 0 ≤ 0 by omega) (show 0 ≤ 0 by omega) d_Mo_floor_62
    · refine pw_callSR X hS (As := [.long (p3).toInt64, .long 0, .long 90]) (rest := [.int p0, .ref a]) (r_Mo_in0 l K f sz p3.toInt64 0 90 (iBad (h2 := 90) (by decide) (by by_cases h4 : p3 < 0; exact Or.inl h4; exact Or.inr (fun z => h3 ⟨h4, z⟩)))) hz w_cd_Mo_in w_ini_Mo w_ml_Mo_140 w_st_Mo_in hd_Mo_in rfl hl.1 (Nat.le_of_ble_eq_true rfl) d_Mo_floor_19 ⟨Nat.le_of_ble_eq_true rfl, Nat.le_of_ble_eq_true rfl⟩ ⟨show 0 ≤ 0 by omega, show 0 ≤ 0 by omega⟩ ?_
      refine pw_callV X hS (As := [.int p0, .int 0]) (rest := []) (c_Mo_stops_1 l K f a sz th wr L Z S G P Ex O T V hm p0 0 (hc.elim Or.inl (fun q => Or.inr ⟨q.1, rfl⟩))) hz w_cd_Mo_stops w_ini_Mo w_ml_Mo_153 w_im_Mo_stops w_se_Mo_stops (hm.1) rfl hd_Mo_stops rfl hl.1 (Nat.le_of_ble_eq_true rfl) d_Mo_floor_22 ⟨Nat.le_of_ble_eq_true rfl, Nat.le_of_ble_eq_true rfl⟩ ⟨show 0 + 0 ≤ 0 by omega, show 0 + 0 ≤ 0 by omega⟩ (fun v f1 H1 lc1 hp hS1 => ?_)
      refine W.cs (cells' := 0) (slots' := 0) rfl rfl ?_
      clear hS hz
      obtain ⟨rfl, hz1, hm1, hq1⟩ := hp
      refine lv_if_ne (tgt := 61) hx hb d_Mo_floor_25 (by decide) (fun _ => ?_) (fun cw => absurd cw (by decide))
      refine lv_iconst (v := 0) hx hb d_Mo_floor_61 (by decide) ?_
      exact pw_iret X hS1 hr ⟨rfl, hz1, hm1, hq1⟩ (show 0 ≤ 0 by omega) (show 0 ≤ 0 by omega) d_Mo_floor_62
set_option maxHeartbeats 4000000 in
set_option maxRecDepth 100000 in
theorem c_Mo_floor_2 (l : Launch) (K : pw_K) (f : pw_F) (a sz : Nat) (th wr : Int32) (L Z S G P Ex O T V : Nat → Int32) (hm : mo K f a th wr L Z S G P Ex O T V) (j : Nat) (hj : j < 2) (hdg : G j < 0) (p1 p2 p3 : Int32) (e0 : ¬ p3 < 0) (e1 : (¬ p2 = 0 → p3 ≤ 90) ∧ (p2 = 0 → p3 ≤ 300)) : pw_C l K y_Mo_floor b_Mo_floor 7 (some .int) (rmk 3 0 0) f [.ref a, .int (nI j), .int p1, .int p2, .int p3] sz (moQ K f a 2 wr L Z S G P Ex O T V sz (some (.int 0))) := by
  refine pw_start (by decide) (Nat.le_of_ble_eq_true rfl) ?_
  intro p e s m args below meth c ls X hr hin hz hS hl
  have hl : lv_has ls 7 [(0, .ref a), (1, .int (nI j)), (2, .int p1), (3, .int p2), (4, .int p3)] := hl
  have hx := X.1
  have hb := X.2.1
  generalize s.heap = H0 at hz hS ⊢
  generalize ([] : List Loc) = lc0 at hS ⊢
  refine lv_aload_n hx hb d_Mo_floor_0 rfl (lv_at hl 0 rfl) ?_
  refine lv_iload_n hx hb d_Mo_floor_1 rfl (lv_at hl 1 rfl) ?_
  refine lv_iload hx hb d_Mo_floor_2 (lv_at hl 4 rfl) ?_
  refine lv_i2l hx hb d_Mo_floor_4 rfl ?_
  refine lv_lconst (v := 0) hx hb d_Mo_floor_5 (by decide) ?_
  refine lv_iload_n hx hb d_Mo_floor_6 rfl (lv_at hl 3 rfl) ?_
  refine lv_if_eq (tgt := 16) hx hb d_Mo_floor_7 (by decide) (fun ct => ?_) (fun ct => ?_)
  · refine pw_ldc2 X w_kl_Mo_180 d_Mo_floor_16 ?_
    refine pw_callSR X hS (As := [.long (p3).toInt64, .long 0, .long 300]) (rest := [.int (nI j), .ref a]) (r_Mo_in1 l K f sz p3.toInt64 0 300 (iOk (h2 := 300) (by decide) e0 (e1.2 ct))) hz w_cd_Mo_in w_ini_Mo w_ml_Mo_140 w_st_Mo_in hd_Mo_in rfl hl.1 (Nat.le_of_ble_eq_true rfl) d_Mo_floor_19 ⟨Nat.le_of_ble_eq_true rfl, Nat.le_of_ble_eq_true rfl⟩ ⟨show 0 ≤ 0 by omega, show 0 ≤ 0 by omega⟩ ?_
    refine pw_callV X hS (As := [.int (nI j), .int 1]) (rest := []) (c_Mo_stops_2 l K f a sz th wr L Z S G P Ex O T V hm j hj hdg) hz w_cd_Mo_stops w_ini_Mo w_ml_Mo_153 w_im_Mo_stops w_se_Mo_stops (hm.1) rfl hd_Mo_stops rfl hl.1 (Nat.le_of_ble_eq_true rfl) d_Mo_floor_22 ⟨Nat.le_of_ble_eq_true rfl, Nat.le_of_ble_eq_true rfl⟩ ⟨show 0 + 0 ≤ 0 by omega, show 0 + 0 ≤ 0 by omega⟩ (fun v f1 H1 lc1 hp hS1 => ?_)
    refine W.cs (cells' := 0) (slots' := 0) rfl rfl ?_
    clear hS hz
    obtain ⟨rfl, hz1, hm1, hq1⟩ := hp
    refine lv_if_ne (tgt := 61) hx hb d_Mo_floor_25 (by decide) (fun _ => ?_) (fun cw => absurd cw (by decide))
    refine lv_iconst (v := 0) hx hb d_Mo_floor_61 (by decide) ?_
    exact pw_iret X hS1 hr ⟨rfl, hz1, hm1, hq1⟩ (show 0 ≤ 0 by omega) (show 0 ≤ 0 by omega) d_Mo_floor_62
  · refine pw_ldc2 X w_kl_Mo_178 d_Mo_floor_10 ?_
    refine lv_goto (tgt := 19) hx hb d_Mo_floor_13 (by decide) ?_
    refine pw_callSR X hS (As := [.long (p3).toInt64, .long 0, .long 90]) (rest := [.int (nI j), .ref a]) (r_Mo_in1 l K f sz p3.toInt64 0 90 (iOk (h2 := 90) (by decide) e0 (e1.1 ct))) hz w_cd_Mo_in w_ini_Mo w_ml_Mo_140 w_st_Mo_in hd_Mo_in rfl hl.1 (Nat.le_of_ble_eq_true rfl) d_Mo_floor_19 ⟨Nat.le_of_ble_eq_true rfl, Nat.le_of_ble_eq_true rfl⟩ ⟨show 0 ≤ 0 by omega, show 0 ≤ 0 by omega⟩ ?_
    refine pw_callV X hS (As := [.int (nI j), .int 1]) (rest := []) (c_Mo_stops_2 l K f a sz th wr L Z S G P Ex O T V hm j hj hdg) hz w_cd_Mo_stops w_ini_Mo w_ml_Mo_153 w_im_Mo_stops w_se_Mo_stops (hm.1) rfl hd_Mo_stops rfl hl.1 (Nat.le_of_ble_eq_true rfl) d_Mo_floor_22 ⟨Nat.le_of_ble_eq_true rfl, Nat.le_of_ble_eq_true rfl⟩ ⟨show 0 + 0 ≤ 0 by omega, show 0 + 0 ≤ 0 by omega⟩ (fun v f1 H1 lc1 hp hS1 => ?_)
    refine W.cs (cells' := 0) (slots' := 0) rfl rfl ?_
    clear hS hz
    obtain ⟨rfl, hz1, hm1, hq1⟩ := hp
    refine lv_if_ne (tgt := 61) hx hb d_Mo_floor_25 (by decide) (fun _ => ?_) (fun cw => absurd cw (by decide))
    refine lv_iconst (v := 0) hx hb d_Mo_floor_61 (by decide) ?_
    exact pw_iret X hS1 hr ⟨rfl, hz1, hm1, hq1⟩ (show 0 ≤ 0 by omega) (show 0 ≤ 0 by omega) d_Mo_floor_62
set_option maxHeartbeats 4000000 in
set_option maxRecDepth 100000 in
theorem c_Mo_lacks (l : Launch) (K : pw_K) (f : pw_F) (a sz : Nat) (th wr : Int32) (L Z S G P Ex O T V : Nat → Int32) (hm : mo K f a th wr L Z S G P Ex O T V) (cd : Int32) (hdg : G 0 < 0) : pw_C l K y_Mo_lacks b_Mo_lacks 2 (some .boolean) (rmk 2 0 0) f [.ref a, .int cd] sz (moQ K f a cd wr L Z S G P Ex O T V sz (some (.int 1))) := by
  refine pw_start (by decide) (Nat.le_of_ble_eq_true rfl) ?_
  intro p e s m args below meth c ls X hr hin hz hS hl
  have hl : lv_has ls 2 [(0, .ref a), (1, .int cd)] := hl
  have hx := X.1
  have hb := X.2.1
  generalize s.heap = H0 at hz hS ⊢
  generalize ([] : List Loc) = lc0 at hS ⊢
  refine lv_aload_n hx hb d_Mo_lacks_0 rfl (lv_at hl 0 rfl) ?_
  refine lv_aload_n hx hb d_Mo_lacks_1 rfl (lv_at hl 0 rfl) ?_
  refine pw_get X hS (hm.1) pc_Mo 4 (by decide) w_fl_Mo_20 rfl (v := .ref (a + 4)) rfl d_Mo_lacks_2 ?_
  refine lv_iconst (v := 0) hx hb d_Mo_lacks_5 (by decide) ?_
  refine pw_ild X hS (hm.2.2.2.2.1) (pk_in 0 10 (by omega)) d_Mo_lacks_6 ?_
  refine lv_topi (fun yy ey => ?_)
  obtain rfl : yy = G 0 := by rw [ey]; rfl
  clear ey
  refine lv_if_lt (tgt := 19) hx hb d_Mo_lacks_7 (by decide) (fun _ => ?_) (fun cw => absurd cw (not_not_intro hdg))
  refine lv_iconst (v := 1) hx hb d_Mo_lacks_19 (by decide) ?_
  refine lv_goto (tgt := 24) hx hb d_Mo_lacks_20 (by decide) ?_
  refine lv_iload_n hx hb d_Mo_lacks_24 rfl (lv_at hl 1 rfl) ?_
  refine pw_callV X hS (As := [.int 1, .int cd]) (rest := []) (c_Mo_fails l K f a sz th wr L Z S G P Ex O T V hm 1 cd cd (Or.inr ⟨rfl, rfl⟩)) hz w_cd_Mo_fails w_ini_Mo w_ml_Mo_146 w_im_Mo_fails w_se_Mo_fails (hm.1) rfl hd_Mo_fails rfl hl.1 (Nat.le_of_ble_eq_true rfl) d_Mo_lacks_25 ⟨Nat.le_of_ble_eq_true rfl, Nat.le_of_ble_eq_true rfl⟩ ⟨show 0 + 0 ≤ 0 by omega, show 0 + 0 ≤ 0 by omega⟩ (fun v f1 H1 lc1 hp hS1 => ?_)
  refine W.cs (cells' := 0) (slots' := 0) rfl rfl ?_
  clear hS hz
  obtain ⟨rfl, hz1, hm1, hq1⟩ := hp
  exact pw_zret X hS1 hr rfl ⟨rfl, hz1, hm1, hq1⟩ (show 0 ≤ 0 by omega) (show 0 ≤ 0 by omega) d_Mo_lacks_28
set_option maxHeartbeats 4000000 in
set_option maxRecDepth 100000 in
theorem c_Mo_order_1 (l : Launch) (K : pw_K) (f : pw_F) (a sz : Nat) (th wr : Int32) (L Z S G P Ex O T V : Nat → Int32) (hm : mo K f a th wr L Z S G P Ex O T V) (p0 p1 : Int32) (hdg : G 0 < 0) : pw_C l K y_Mo_order b_Mo_order 6 (some .int) (rmk 3 0 0) f [.ref a, .int p0, .int p1] sz (moQ K f a 1 wr L Z S G P Ex O T V sz (some (.int 0))) := by
  refine pw_start (by decide) (Nat.le_of_ble_eq_true rfl) ?_
  intro p e s m args below meth c ls X hr hin hz hS hl
  have hl : lv_has ls 6 [(0, .ref a), (1, .int p0), (2, .int p1)] := hl
  have hx := X.1
  have hb := X.2.1
  generalize s.heap = H0 at hz hS ⊢
  generalize ([] : List Loc) = lc0 at hS ⊢
  refine lv_aload_n hx hb d_Mo_order_0 rfl (lv_at hl 0 rfl) ?_
  refine lv_iconst (v := 1) hx hb d_Mo_order_1 (by decide) ?_
  refine pw_callV X hS (As := [.int 1]) (rest := []) (c_Mo_lacks l K f a sz th wr L Z S G P Ex O T V hm 1 hdg) hz w_cd_Mo_lacks w_ini_Mo w_ml_Mo_204 w_im_Mo_lacks w_se_Mo_lacks (hm.1) rfl hd_Mo_lacks rfl hl.1 (Nat.le_of_ble_eq_true rfl) d_Mo_order_2 ⟨Nat.le_of_ble_eq_true rfl, Nat.le_of_ble_eq_true rfl⟩ ⟨show 0 + 0 ≤ 0 by omega, show 0 + 0 ≤ 0 by omega⟩ (fun v f1 H1 lc1 hp hS1 => ?_)
  refine W.cs (cells' := 0) (slots' := 0) rfl rfl ?_
  clear hS hz
  obtain ⟨rfl, hz1, hm1, hq1⟩ := hp
  refine lv_if_eq (tgt := 10) hx hb d_Mo_order_5 (by decide) (fun cw => absurd cw (by decide)) (fun _ => ?_)
  refine lv_iconst (v := 0) hx hb d_Mo_order_8 (by decide) ?_
  exact pw_iret X hS1 hr ⟨rfl, hz1, hm1, hq1⟩ (show 0 ≤ 0 by omega) (show 0 ≤ 0 by omega) d_Mo_order_9
set_option maxHeartbeats 4000000 in
set_option maxRecDepth 100000 in
theorem c_Mo_common_1 (l : Launch) (K : pw_K) (f : pw_F) (a sz : Nat) (th wr : Int32) (L Z S G P Ex O T V : Nat → Int32) (hm : mo K f a th wr L Z S G P Ex O T V) (hdg : G 0 < 0) : pw_C l K y_Mo_common b_Mo_common 3 (some .int) (rmk 3 0 0) f [.ref a] sz (moQ K f a 1 wr L Z S G P Ex O T V sz (some (.int 0))) := by
  refine pw_start (by decide) (Nat.le_of_ble_eq_true rfl) ?_
  intro p e s m args below meth c ls X hr hin hz hS hl
  have hl : lv_has ls 3 [(0, .ref a)] := hl
  have hx := X.1
  have hb := X.2.1
  generalize s.heap = H0 at hz hS ⊢
  generalize ([] : List Loc) = lc0 at hS ⊢
  refine lv_aload_n hx hb d_Mo_common_0 rfl (lv_at hl 0 rfl) ?_
  refine lv_iconst (v := 1) hx hb d_Mo_common_1 (by decide) ?_
  refine pw_callV X hS (As := [.int 1]) (rest := []) (c_Mo_lacks l K f a sz th wr L Z S G P Ex O T V hm 1 hdg) hz w_cd_Mo_lacks w_ini_Mo w_ml_Mo_204 w_im_Mo_lacks w_se_Mo_lacks (hm.1) rfl hd_Mo_lacks rfl hl.1 (Nat.le_of_ble_eq_true rfl) d_Mo_common_2 ⟨Nat.le_of_ble_eq_true rfl, Nat.le_of_ble_eq_true rfl⟩ ⟨show 0 + 0 ≤ 0 by omega, show 0 + 0 ≤ 0 by omega⟩ (fun v f1 H1 lc1 hp hS1 => ?_)
  refine W.cs (cells' := 0) (slots' := 0) rfl rfl ?_
  clear hS hz
  obtain ⟨rfl, hz1, hm1, hq1⟩ := hp
  refine lv_if_eq (tgt := 10) hx hb d_Mo_common_5 (by decide) (fun cw => absurd cw (by decide)) (fun _ => ?_)
  refine lv_iconst (v := 0) hx hb d_Mo_common_8 (by decide) ?_
  exact pw_iret X hS1 hr ⟨rfl, hz1, hm1, hq1⟩ (show 0 ≤ 0 by omega) (show 0 ≤ 0 by omega) d_Mo_common_9
set_option maxHeartbeats 4000000 in
set_option maxRecDepth 100000 in
theorem c_Mo_signAt_1 (l : Launch) (K : pw_K) (f : pw_F) (a sz : Nat) (th wr : Int32) (L Z S G P Ex O T V : Nat → Int32) (hm : mo K f a th wr L Z S G P Ex O T V) (p0 : Int32) (hc : p0 < 0 ∨ ¬ p0 < 2) (p1 : Int32) : pw_C l K y_Mo_signAt b_Mo_signAt 7 (some .int) (rmk 3 0 0) f [.ref a, .int p0, .int p1] sz (moQ K f a 1 wr L Z S G P Ex O T V sz (some (.int 0))) := by
  refine pw_start (by decide) (Nat.le_of_ble_eq_true rfl) ?_
  intro p e s m args below meth c ls X hr hin hz hS hl
  have hl : lv_has ls 7 [(0, .ref a), (1, .int p0), (2, .int p1)] := hl
  have hx := X.1
  have hb := X.2.1
  generalize s.heap = H0 at hz hS ⊢
  generalize ([] : List Loc) = lc0 at hS ⊢
  refine lv_aload_n hx hb d_Mo_signAt_0 rfl (lv_at hl 0 rfl) ?_
  refine lv_iload_n hx hb d_Mo_signAt_1 rfl (lv_at hl 1 rfl) ?_
  refine lv_i2l hx hb d_Mo_signAt_2 rfl ?_
  refine lv_lconst (v := 0) hx hb d_Mo_signAt_3 (by decide) ?_
  refine lv_lconst (v := 1) hx hb d_Mo_signAt_4 (by decide) ?_
  refine pw_callSR X hS (As := [.long (p0).toInt64, .long 0, .long 1]) (rest := [.ref a]) (r_Mo_in0 l K f sz p0.toInt64 0 1 (iBad (h2 := 1) (by decide) (hc.elim Or.inl (fun q => Or.inr (fun z => q (p_le.mpr z)))))) hz w_cd_Mo_in w_ini_Mo w_ml_Mo_140 w_st_Mo_in hd_Mo_in rfl hl.1 (Nat.le_of_ble_eq_true rfl) d_Mo_signAt_5 ⟨Nat.le_of_ble_eq_true rfl, Nat.le_of_ble_eq_true rfl⟩ ⟨show 0 ≤ 0 by omega, show 0 ≤ 0 by omega⟩ ?_
  refine lv_if_ne (tgt := 15) hx hb d_Mo_signAt_8 (by decide) (fun cw => absurd cw (by decide)) (fun _ => ?_)
  refine lv_iconst (v := 1) hx hb d_Mo_signAt_11 (by decide) ?_
  refine lv_goto (tgt := 16) hx hb d_Mo_signAt_12 (by decide) ?_
  refine lv_iconst (v := 1) hx hb d_Mo_signAt_16 (by decide) ?_
  refine pw_callV X hS (As := [.int 1, .int 1]) (rest := []) (c_Mo_fails l K f a sz th wr L Z S G P Ex O T V hm 1 1 1 (by decide)) hz w_cd_Mo_fails w_ini_Mo w_ml_Mo_146 w_im_Mo_fails w_se_Mo_fails (hm.1) rfl hd_Mo_fails rfl hl.1 (Nat.le_of_ble_eq_true rfl) d_Mo_signAt_17 ⟨Nat.le_of_ble_eq_true rfl, Nat.le_of_ble_eq_true rfl⟩ ⟨show 0 + 0 ≤ 0 by omega, show 0 + 0 ≤ 0 by omega⟩ (fun v f1 H1 lc1 hp hS1 => ?_)
  refine W.cs (cells' := 0) (slots' := 0) rfl rfl ?_
  clear hS hz
  obtain ⟨rfl, hz1, hm1, hq1⟩ := hp
  refine lv_if_ne (tgt := 31) hx hb d_Mo_signAt_20 (by decide) (fun _ => ?_) (fun cw => absurd cw (by decide))
  refine lv_iconst (v := 0) hx hb d_Mo_signAt_31 (by decide) ?_
  exact pw_iret X hS1 hr ⟨rfl, hz1, hm1, hq1⟩ (show 0 ≤ 0 by omega) (show 0 ≤ 0 by omega) d_Mo_signAt_32
set_option maxHeartbeats 4000000 in
set_option maxRecDepth 100000 in
theorem c_Mo_signAt_2 (l : Launch) (K : pw_K) (f : pw_F) (a sz : Nat) (th wr : Int32) (L Z S G P Ex O T V : Nat → Int32) (hm : mo K f a th wr L Z S G P Ex O T V) (j : Nat) (hj : j < 2) (hdg : G 0 < 0) (p1 : Int32) : pw_C l K y_Mo_signAt b_Mo_signAt 7 (some .int) (rmk 3 0 0) f [.ref a, .int (nI j), .int p1] sz (moQ K f a 2 wr L Z S G P Ex O T V sz (some (.int 0))) := by
  refine pw_start (by decide) (Nat.le_of_ble_eq_true rfl) ?_
  intro p e s m args below meth c ls X hr hin hz hS hl
  have hl : lv_has ls 7 [(0, .ref a), (1, .int (nI j)), (2, .int p1)] := hl
  have hx := X.1
  have hb := X.2.1
  generalize s.heap = H0 at hz hS ⊢
  generalize ([] : List Loc) = lc0 at hS ⊢
  refine lv_aload_n hx hb d_Mo_signAt_0 rfl (lv_at hl 0 rfl) ?_
  refine lv_iload_n hx hb d_Mo_signAt_1 rfl (lv_at hl 1 rfl) ?_
  refine lv_i2l hx hb d_Mo_signAt_2 rfl ?_
  refine lv_lconst (v := 0) hx hb d_Mo_signAt_3 (by decide) ?_
  refine lv_lconst (v := 1) hx hb d_Mo_signAt_4 (by decide) ?_
  refine pw_callSR X hS (As := [.long ((nI j)).toInt64, .long 0, .long 1]) (rest := [.ref a]) (r_Mo_in1 l K f sz ((nI j).toInt64) 0 1 (iOk (h2 := 1) (by decide) (nI_pos (by omega)) (nI_le (b := 1) (by omega) (by omega)))) hz w_cd_Mo_in w_ini_Mo w_ml_Mo_140 w_st_Mo_in hd_Mo_in rfl hl.1 (Nat.le_of_ble_eq_true rfl) d_Mo_signAt_5 ⟨Nat.le_of_ble_eq_true rfl, Nat.le_of_ble_eq_true rfl⟩ ⟨show 0 ≤ 0 by omega, show 0 ≤ 0 by omega⟩ ?_
  refine lv_if_ne (tgt := 15) hx hb d_Mo_signAt_8 (by decide) (fun _ => ?_) (fun cw => absurd cw (by decide))
  refine lv_iconst (v := 0) hx hb d_Mo_signAt_15 (by decide) ?_
  refine lv_iconst (v := 1) hx hb d_Mo_signAt_16 (by decide) ?_
  refine pw_callV X hS (As := [.int 0, .int 1]) (rest := []) (c_Mo_fails l K f a sz th wr L Z S G P Ex O T V hm 0 1 0 (by decide)) hz w_cd_Mo_fails w_ini_Mo w_ml_Mo_146 w_im_Mo_fails w_se_Mo_fails (hm.1) rfl hd_Mo_fails rfl hl.1 (Nat.le_of_ble_eq_true rfl) d_Mo_signAt_17 ⟨Nat.le_of_ble_eq_true rfl, Nat.le_of_ble_eq_true rfl⟩ ⟨show 0 + 0 ≤ 0 by omega, show 0 + 0 ≤ 0 by omega⟩ (fun v f1 H1 lc1 hp hS1 => ?_)
  refine W.cs (cells' := 0) (slots' := 0) rfl rfl ?_
  clear hS hz
  obtain ⟨rfl, hz1, hm1, hq1⟩ := hp
  refine lv_if_ne (tgt := 31) hx hb d_Mo_signAt_20 (by decide) (fun cw => absurd cw (by decide)) (fun _ => ?_)
  refine lv_aload_n hx hb d_Mo_signAt_23 rfl (lv_at hl 0 rfl) ?_
  refine lv_iconst (v := 2) hx hb d_Mo_signAt_24 (by decide) ?_
  refine pw_callV X hS1 (As := [.int 2]) (rest := []) (c_Mo_lacks l K f1 a sz 0 wr L Z S G P Ex O T V hm1 2 hdg) hz1 w_cd_Mo_lacks w_ini_Mo w_ml_Mo_204 w_im_Mo_lacks w_se_Mo_lacks (hm1.1) rfl hd_Mo_lacks rfl hl.1 (Nat.le_of_ble_eq_true rfl) d_Mo_signAt_25 ⟨Nat.le_of_ble_eq_true rfl, Nat.le_of_ble_eq_true rfl⟩ ⟨show 0 + 0 ≤ 0 by omega, show 0 + 0 ≤ 0 by omega⟩ (fun v f2 H2 lc2 hp hS2 => ?_)
  refine W.cs (cells' := 0) (slots' := 0) rfl rfl ?_
  clear hS1 hz1
  obtain ⟨rfl, hz2, hm2, hq2⟩ := hp
  refine lv_if_eq (tgt := 33) hx hb d_Mo_signAt_28 (by decide) (fun cw => absurd cw (by decide)) (fun _ => ?_)
  refine lv_iconst (v := 0) hx hb d_Mo_signAt_31 (by decide) ?_
  exact pw_iret X hS2 hr ⟨rfl, hz2, hm2, fun q hq => (hq2 q hq).trans (hq1 q hq)⟩ (show 0 ≤ 0 by omega) (show 0 ≤ 0 by omega) d_Mo_signAt_32
set_option maxHeartbeats 4000000 in
set_option maxRecDepth 100000 in
theorem c_Mo_out_1 (l : Launch) (K : pw_K) (f : pw_F) (a sz : Nat) (th wr : Int32) (L Z S G P Ex O T V : Nat → Int32) (hm : mo K f a th wr L Z S G P Ex O T V) (p0 : Int32) (hc : p0 < 0 ∨ wr - 1 < p0) : pw_C l K y_Mo_out b_Mo_out 5 (some .long) (rmk 3 0 0) f [.ref a, .int p0] sz (moQ K f a 1 wr L Z S G P Ex O T V sz (some (.long 0))) := by
  refine pw_start (by decide) (Nat.le_of_ble_eq_true rfl) ?_
  intro p e s m args below meth c ls X hr hin hz hS hl
  have hl : lv_has ls 5 [(0, .ref a), (1, .int p0)] := hl
  have hx := X.1
  have hb := X.2.1
  generalize s.heap = H0 at hz hS ⊢
  generalize ([] : List Loc) = lc0 at hS ⊢
  refine lv_aload_n hx hb d_Mo_out_0 rfl (lv_at hl 0 rfl) ?_
  refine lv_iload_n hx hb d_Mo_out_1 rfl (lv_at hl 1 rfl) ?_
  refine lv_i2l hx hb d_Mo_out_2 rfl ?_
  refine lv_lconst (v := 0) hx hb d_Mo_out_3 (by decide) ?_
  refine lv_aload_n hx hb d_Mo_out_4 rfl (lv_at hl 0 rfl) ?_
  refine pw_get X hS (hm.1) pc_Mo 9 (by decide) w_fl_Mo_198 rfl (v := .int wr) rfl d_Mo_out_5 ?_
  refine lv_iconst (v := 1) hx hb d_Mo_out_8 (by decide) ?_
  refine lv_isub hx hb d_Mo_out_9 ?_
  refine lv_i2l hx hb d_Mo_out_10 rfl ?_
  refine pw_callSR X hS (As := [.long (p0).toInt64, .long 0, .long ((wr - 1)).toInt64]) (rest := [.ref a]) (r_Mo_in0 l K f sz p0.toInt64 0 (wr - 1).toInt64 (hc.elim (fun q => Or.inl ((i64_lt p0 0).mpr q)) (fun q => Or.inr ((i64_lt (wr - 1) p0).mpr q)))) hz w_cd_Mo_in w_ini_Mo w_ml_Mo_140 w_st_Mo_in hd_Mo_in rfl hl.1 (Nat.le_of_ble_eq_true rfl) d_Mo_out_11 ⟨Nat.le_of_ble_eq_true rfl, Nat.le_of_ble_eq_true rfl⟩ ⟨show 0 ≤ 0 by omega, show 0 ≤ 0 by omega⟩ ?_
  refine lv_if_ne (tgt := 21) hx hb d_Mo_out_14 (by decide) (fun cw => absurd cw (by decide)) (fun _ => ?_)
  refine lv_iconst (v := 1) hx hb d_Mo_out_17 (by decide) ?_
  refine lv_goto (tgt := 22) hx hb d_Mo_out_18 (by decide) ?_
  refine lv_iconst (v := 1) hx hb d_Mo_out_22 (by decide) ?_
  refine pw_callV X hS (As := [.int 1, .int 1]) (rest := []) (c_Mo_fails l K f a sz th wr L Z S G P Ex O T V hm 1 1 1 (by decide)) hz w_cd_Mo_fails w_ini_Mo w_ml_Mo_146 w_im_Mo_fails w_se_Mo_fails (hm.1) rfl hd_Mo_fails rfl hl.1 (Nat.le_of_ble_eq_true rfl) d_Mo_out_23 ⟨Nat.le_of_ble_eq_true rfl, Nat.le_of_ble_eq_true rfl⟩ ⟨show 0 + 0 ≤ 0 by omega, show 0 + 0 ≤ 0 by omega⟩ (fun v f1 H1 lc1 hp hS1 => ?_)
  refine W.cs (cells' := 0) (slots' := 0) rfl rfl ?_
  clear hS hz
  obtain ⟨rfl, hz1, hm1, hq1⟩ := hp
  refine lv_if_eq (tgt := 31) hx hb d_Mo_out_26 (by decide) (fun cw => absurd cw (by decide)) (fun _ => ?_)
  refine lv_lconst (v := 0) hx hb d_Mo_out_29 (by decide) ?_
  exact pw_lret X hS1 hr ⟨rfl, hz1, hm1, hq1⟩ (show 0 ≤ 0 by omega) (show 0 ≤ 0 by omega) d_Mo_out_30
