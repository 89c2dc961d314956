/-! SturmDesk: the calls that are refused -/
def dkO (K : pw_K) (f : pw_F) (a : Nat) : Prop := f a = some (.inr (10, [.ref (a + 1), .ref (a + 356), .ref (a + 447), .ref (a + 612)])) ∧ ∃ g : Nat → Option Nat, f (a + 1) = some (.inl (pE K 7, 2, .inr (.inr (.inr (.inr g))))) ∧ ∀ k, k < 2 → g k = some (a + 2 + 177 * k)
def heO (f : pw_F) (h : Nat) (rd ct sh sr rc : Int32) : Prop := f h = some (.inr (7, [.ref (h + 1), .ref (h + 2), .ref (h + 22), .ref (h + 152), .int rd, .int ct, .int sh, .int sr, .int rc]))
def pyO (f : pw_F) (q : Nat) (dg : Int32) : Prop := f q = some (.inr (2, [.ref (q + 1), .int dg]))
def txO (f : pw_F) (q : Nat) (n : Int32) : Prop := f q = some (.inr (9, [.ref (q + 1), .ref (q + 2), .ref (q + 3), .int n]))
abbrev sIAE : String := "java/lang/IllegalArgumentException"
abbrev sISE : String := "java/lang/IllegalStateException"
abbrev sNSE : String := "java/util/NoSuchElementException"
abbrev nTr (l : Launch) : Prop := l.flags = pinnedFlags ++ [noTraceFlag]
theorem d_D_checkPolynomial_0 : decode b_D_checkPolynomial 0 = .ok (.iload_n 1, 1) := by decide +kernel
theorem d_D_checkPolynomial_1 : decode b_D_checkPolynomial 1 = .ok (.ifCond .lt 8, 3) := by decide +kernel
theorem d_D_checkPolynomial_4 : decode b_D_checkPolynomial 4 = .ok (.iload_n 1, 1) := by decide +kernel
theorem d_D_checkPolynomial_5 : decode b_D_checkPolynomial 5 = .ok (.iconst 2, 1) := by decide +kernel
theorem d_D_checkPolynomial_6 : decode b_D_checkPolynomial 6 = .ok (.if_icmp .lt 13, 3) := by decide +kernel
theorem d_D_checkPolynomial_9 : decode b_D_checkPolynomial 9 = .ok (.new 41, 3) := by decide +kernel
theorem d_D_checkPolynomial_12 : decode b_D_checkPolynomial 12 = .ok (.dup, 1) := by decide +kernel
theorem d_D_checkPolynomial_13 : decode b_D_checkPolynomial 13 = .ok (.ldc 173, 2) := by decide +kernel
theorem d_D_checkPolynomial_15 : decode b_D_checkPolynomial 15 = .ok (.invokespecial 45, 3) := by decide +kernel
theorem d_D_checkPolynomial_18 : decode b_D_checkPolynomial 18 = .ok (.athrow, 1) := by decide +kernel
theorem d_D_checkPolynomial_19 : decode b_D_checkPolynomial 19 = .ok (.return_, 1) := by decide +kernel
set_option maxHeartbeats 4000000 in
set_option maxRecDepth 100000 in
theorem r_D_checkPolynomial (l : Launch) (K : pw_K) (f : pw_F) (a sz : Nat) (p0 : Int32) (h0 : ¬ p0 < 0) (h1 : p0 < 2) : pw_R l K y_D_checkPolynomial b_D_checkPolynomial 2 none (rmk 1 0 0) f [.ref a, .int p0] sz none := by
  refine pw_startR (by decide) (Nat.le_of_ble_eq_true rfl) ?_
  intro p e s m args below meth c ls X hr hz hS hl
  have hl : lv_has ls 2 [(0, .ref a), (1, .int p0)] := hl
  have hx := X.1
  have hb := X.2.1
  refine lv_iload_n hx hb d_D_checkPolynomial_0 rfl (lv_at hl 1 rfl) ?_
  refine lv_if_lt (tgt := 9) hx hb d_D_checkPolynomial_1 (by decide) (fun c1 => ?_) (fun c1 => ?_)
  · exact absurd c1 h0
  · refine lv_iload_n hx hb d_D_checkPolynomial_4 rfl (lv_at hl 1 rfl) ?_
    refine lv_iconst (v := 2) hx hb d_D_checkPolynomial_5 (by decide) ?_
    refine lv_icmp_lt (tgt := 19) hx hb d_D_checkPolynomial_6 (by decide) (fun c2 => ?_) (fun c2 => ?_)
    · exact pw_vretR X hr d_D_checkPolynomial_19
    · exact absurd h1 c2
set_option maxHeartbeats 4000000 in
set_option maxRecDepth 100000 in
theorem t_D_checkPolynomial (l : Launch) (hfl : nTr l) (K : pw_K) (f : pw_F) (a sz : Nat) (p0 : Int32) (hb0 : p0 < 0 ∨ ¬ p0 < 2) : pw_T l K y_D_checkPolynomial b_D_checkPolynomial 2 none (rmk 8 1 6) f [.ref a, .int p0] sz sIAE (fun f2 => f2 = f) := by
  refine pw_startT (by decide) (Nat.le_of_ble_eq_true rfl) ?_
  intro p e s m args below meth c ls X hne hh hz hS hl
  have hl : lv_has ls 2 [(0, .ref a), (1, .int p0)] := hl
  have hx := X.1
  have hb := X.2.1
  refine lv_iload_n hx hb d_D_checkPolynomial_0 rfl (lv_at hl 1 rfl) ?_
  refine lv_if_lt (tgt := 9) hx hb d_D_checkPolynomial_1 (by decide) (fun c1 => ?_) (fun c1 => ?_)
  · exact pw_throw (R := rmk 8 1 6) (mc := 1) (ms := 6) (post := fun f2 => f2 = f) hfl X hne hS hl.1 w_cl_D_41 (at_use X hS at_inS.1) (at_use X hS at_inI.1) (st_D X.2.2.2.2.2.2.2.1).1 (at_all X hS at_IAE) (by decide +kernel) (by decide +kernel) d_D_checkPolynomial_9 d_D_checkPolynomial_12 d_D_checkPolynomial_13 d_D_checkPolynomial_15 d_D_checkPolynomial_18 rfl (Nat.le_of_ble_eq_true rfl) (Nat.le_of_ble_eq_true rfl) (Nat.le_of_ble_eq_true rfl) (Nat.le_of_ble_eq_true rfl) (Nat.le_of_ble_eq_true rfl) (Nat.le_of_ble_eq_true rfl)
  · refine lv_iload_n hx hb d_D_checkPolynomial_4 rfl (lv_at hl 1 rfl) ?_
    refine lv_iconst (v := 2) hx hb d_D_checkPolynomial_5 (by decide) ?_
    refine lv_icmp_lt (tgt := 19) hx hb d_D_checkPolynomial_6 (by decide) (fun c2 => ?_) (fun c2 => ?_)
    · exact absurd hb0 (fun q => q.elim c1 (fun q2 => q2 c2))
    · exact pw_throw (R := rmk 8 1 6) (mc := 1) (ms := 6) (post := fun f2 => f2 = f) hfl X hne hS hl.1 w_cl_D_41 (at_use X hS at_inS.1) (at_use X hS at_inI.1) (st_D X.2.2.2.2.2.2.2.1).1 (at_all X hS at_IAE) (by decide +kernel) (by decide +kernel) d_D_checkPolynomial_9 d_D_checkPolynomial_12 d_D_checkPolynomial_13 d_D_checkPolynomial_15 d_D_checkPolynomial_18 rfl (Nat.le_of_ble_eq_true rfl) (Nat.le_of_ble_eq_true rfl) (Nat.le_of_ble_eq_true rfl) (Nat.le_of_ble_eq_true rfl) (Nat.le_of_ble_eq_true rfl) (Nat.le_of_ble_eq_true rfl)
theorem d_D_checkExponent_0 : decode b_D_checkExponent 0 = .ok (.iload_n 1, 1) := by decide +kernel
theorem d_D_checkExponent_1 : decode b_D_checkExponent 1 = .ok (.ifCond .lt 9, 3) := by decide +kernel
theorem d_D_checkExponent_4 : decode b_D_checkExponent 4 = .ok (.iload_n 1, 1) := by decide +kernel
theorem d_D_checkExponent_5 : decode b_D_checkExponent 5 = .ok (.bipush 62, 2) := by decide +kernel
theorem d_D_checkExponent_7 : decode b_D_checkExponent 7 = .ok (.if_icmp .le 13, 3) := by decide +kernel
theorem d_D_checkExponent_10 : decode b_D_checkExponent 10 = .ok (.new 41, 3) := by decide +kernel
theorem d_D_checkExponent_13 : decode b_D_checkExponent 13 = .ok (.dup, 1) := by decide +kernel
theorem d_D_checkExponent_14 : decode b_D_checkExponent 14 = .ok (.ldc 175, 2) := by decide +kernel
theorem d_D_checkExponent_16 : decode b_D_checkExponent 16 = .ok (.invokespecial 45, 3) := by decide +kernel
theorem d_D_checkExponent_19 : decode b_D_checkExponent 19 = .ok (.athrow, 1) := by decide +kernel
theorem d_D_checkExponent_20 : decode b_D_checkExponent 20 = .ok (.return_, 1) := by decide +kernel
set_option maxHeartbeats 4000000 in
set_option maxRecDepth 100000 in
theorem r_D_checkExponent (l : Launch) (K : pw_K) (f : pw_F) (a sz : Nat) (p0 : Int32) (h0 : ¬ p0 < 0) (h1 : p0 ≤ 62) : pw_R l K y_D_checkExponent b_D_checkExponent 2 none (rmk 1 0 0) f [.ref a, .int p0] sz none := by
  refine pw_startR (by decide) (Nat.le_of_ble_eq_true rfl) ?_
  intro p e s m args below meth c ls X hr hz hS hl
  have hl : lv_has ls 2 [(0, .ref a), (1, .int p0)] := hl
  have hx := X.1
  have hb := X.2.1
  refine lv_iload_n hx hb d_D_checkExponent_0 rfl (lv_at hl 1 rfl) ?_
  refine lv_if_lt (tgt := 10) hx hb d_D_checkExponent_1 (by decide) (fun c1 => ?_) (fun c1 => ?_)
  · exact absurd c1 h0
  · refine lv_iload_n hx hb d_D_checkExponent_4 rfl (lv_at hl 1 rfl) ?_
    refine lv_bipush (v := 62) hx hb d_D_checkExponent_5 (by decide) ?_
    refine lv_icmp_le (tgt := 20) hx hb d_D_checkExponent_7 (by decide) (fun c2 => ?_) (fun c2 => ?_)
    · exact pw_vretR X hr d_D_checkExponent_20
    · exact absurd h1 c2
set_option maxHeartbeats 4000000 in
set_option maxRecDepth 100000 in
theorem t_D_checkExponent (l : Launch) (hfl : nTr l) (K : pw_K) (f : pw_F) (a sz : Nat) (p0 : Int32) (hb0 : p0 < 0 ∨ ¬ p0 ≤ 62) : pw_T l K y_D_checkExponent b_D_checkExponent 2 none (rmk 8 1 6) f [.ref a, .int p0] sz sIAE (fun f2 => f2 = f) := by
  refine pw_startT (by decide) (Nat.le_of_ble_eq_true rfl) ?_
  intro p e s m args below meth c ls X hne hh hz hS hl
  have hl : lv_has ls 2 [(0, .ref a), (1, .int p0)] := hl
  have hx := X.1
  have hb := X.2.1
  refine lv_iload_n hx hb d_D_checkExponent_0 rfl (lv_at hl 1 rfl) ?_
  refine lv_if_lt (tgt := 10) hx hb d_D_checkExponent_1 (by decide) (fun c1 => ?_) (fun c1 => ?_)
  · exact pw_throw (R := rmk 8 1 6) (mc := 1) (ms := 6) (post := fun f2 => f2 = f) hfl X hne hS hl.1 w_cl_D_41 (at_use X hS at_inS.1) (at_use X hS at_inI.1) (st_D X.2.2.2.2.2.2.2.1).2.2.1 (at_all X hS at_IAE) (by decide +kernel) (by decide +kernel) d_D_checkExponent_10 d_D_checkExponent_13 d_D_checkExponent_14 d_D_checkExponent_16 d_D_checkExponent_19 rfl (Nat.le_of_ble_eq_true rfl) (Nat.le_of_ble_eq_true rfl) (Nat.le_of_ble_eq_true rfl) (Nat.le_of_ble_eq_true rfl) (Nat.le_of_ble_eq_true rfl) (Nat.le_of_ble_eq_true rfl)
  · refine lv_iload_n hx hb d_D_checkExponent_4 rfl (lv_at hl 1 rfl) ?_
    refine lv_bipush (v := 62) hx hb d_D_checkExponent_5 (by decide) ?_
    refine lv_icmp_le (tgt := 20) hx hb d_D_checkExponent_7 (by decide) (fun c2 => ?_) (fun c2 => ?_)
    · exact absurd hb0 (fun q => q.elim c1 (fun q2 => q2 c2))
    · exact pw_throw (R := rmk 8 1 6) (mc := 1) (ms := 6) (post := fun f2 => f2 = f) hfl X hne hS hl.1 w_cl_D_41 (at_use X hS at_inS.1) (at_use X hS at_inI.1) (st_D X.2.2.2.2.2.2.2.1).2.2.1 (at_all X hS at_IAE) (by decide +kernel) (by decide +kernel) d_D_checkExponent_10 d_D_checkExponent_13 d_D_checkExponent_14 d_D_checkExponent_16 d_D_checkExponent_19 rfl (Nat.le_of_ble_eq_true rfl) (Nat.le_of_ble_eq_true rfl) (Nat.le_of_ble_eq_true rfl) (Nat.le_of_ble_eq_true rfl) (Nat.le_of_ble_eq_true rfl) (Nat.le_of_ble_eq_true rfl)
theorem d_D_some_0 : decode b_D_some 0 = .ok (.aload_n 0, 1) := by decide +kernel
theorem d_D_some_1 : decode b_D_some 1 = .ok (.getfield 11, 3) := by decide +kernel
theorem d_D_some_4 : decode b_D_some 4 = .ok (.iload_n 1, 1) := by decide +kernel
theorem d_D_some_5 : decode b_D_some 5 = .ok (.aaload, 1) := by decide +kernel
theorem d_D_some_6 : decode b_D_some 6 = .ok (.astore_n 2, 1) := by decide +kernel
theorem d_D_some_7 : decode b_D_some 7 = .ok (.aload_n 2, 1) := by decide +kernel
theorem d_D_some_8 : decode b_D_some 8 = .ok (.getfield 52, 3) := by decide +kernel
theorem d_D_some_11 : decode b_D_some 11 = .ok (.getfield 56, 3) := by decide +kernel
theorem d_D_some_14 : decode b_D_some 14 = .ok (.ifCond .ge 13, 3) := by decide +kernel
theorem d_D_some_17 : decode b_D_some 17 = .ok (.new 177, 3) := by decide +kernel
theorem d_D_some_20 : decode b_D_some 20 = .ok (.dup, 1) := by decide +kernel
theorem d_D_some_21 : decode b_D_some 21 = .ok (.ldc 179, 2) := by decide +kernel
theorem d_D_some_23 : decode b_D_some 23 = .ok (.invokespecial 181, 3) := by decide +kernel
theorem d_D_some_26 : decode b_D_some 26 = .ok (.athrow, 1) := by decide +kernel
theorem d_D_some_27 : decode b_D_some 27 = .ok (.aload_n 2, 1) := by decide +kernel
theorem d_D_some_28 : decode b_D_some 28 = .ok (.areturn, 1) := by decide +kernel
set_option maxHeartbeats 4000000 in
set_option maxRecDepth 100000 in
theorem t_D_some (l : Launch) (hfl : nTr l) (K : pw_K) (f : pw_F) (a sz : Nat) (hdk : dkO K f a) (j : Nat) (hj : j < 2) (rd ct sh sr rc dg : Int32) (hhe : heO f (a + 2 + 177 * j) rd ct sh sr rc) (hpy : pyO f (a + 2 + 177 * j + 2) dg) (hdg : dg < 0) : pw_T l K y_D_some b_D_some 3 (some (.object "SturmDesk$Held")) (rmk 8 1 6) f [.ref a, .int (nI j)] sz sISE (fun f2 => f2 = f) := by
  refine pw_startT (by decide) (Nat.le_of_ble_eq_true rfl) ?_
  intro p e s m args below meth c ls X hne hh hz hS hl
  have hl : lv_has ls 3 [(0, .ref a), (1, .int (nI j))] := hl
  have hx := X.1
  have hb := X.2.1
  obtain ⟨g, hg, hgk⟩ := hdk.2
  refine lv_aload_n hx hb d_D_some_0 rfl (lv_at hl 0 rfl) ?_
  refine pw_get X hS (hdk.1) pc_D 0 (by decide) w_fl_D_11 rfl (v := .ref (a + 1)) rfl d_D_some_1 ?_
  refine lv_iload_n hx hb d_D_some_4 rfl (lv_at hl 1 rfl) ?_
  refine pw_ald X hS 7 rfl (hg) (vp_in_nI (by omega) (by omega)) (b := a + 2 + 177 * j) (by rw [nI_clamp (by omega)]; exact hgk j hj) d_D_some_5 ?_
  refine lv_astore_n (lv' := [(2, .ref (a + 2 + 177 * j)), (0, .ref a), (1, .int (nI j))]) hx hb d_D_some_6 rfl hl (by decide) rfl (fun ls hl => ?_)
  refine lv_aload_n hx hb d_D_some_7 rfl (lv_at hl 0 rfl) ?_
  refine pw_get X hS (hhe) pc_He 1 (by decide) w_fl_D_52 rfl (v := .ref (a + 2 + 177 * j + 2)) rfl d_D_some_8 ?_
  refine pw_get X hS (hpy) pc_Py 1 (by decide) w_fl_D_56 rfl (v := .int dg) rfl d_D_some_11 ?_
  refine lv_if_ge (tgt := 27) hx hb d_D_some_14 (by decide) (fun c1 => ?_) (fun c1 => ?_)
  · exact absurd c1 (Int32.not_le.mpr hdg)
  · exact pw_throw (R := rmk 8 1 6) (mc := 1) (ms := 6) (post := fun f2 => f2 = f) hfl X hne hS hl.1 w_cl_D_177 (at_use X hS at_inS.2.1) (at_use X hS at_inI.2.1) (st_D X.2.2.2.2.2.2.2.1).2.2.2.1 (at_all X hS at_ISE) (by decide +kernel) (by decide +kernel) d_D_some_17 d_D_some_20 d_D_some_21 d_D_some_23 d_D_some_26 rfl (Nat.le_of_ble_eq_true rfl) (Nat.le_of_ble_eq_true rfl) (Nat.le_of_ble_eq_true rfl) (Nat.le_of_ble_eq_true rfl) (Nat.le_of_ble_eq_true rfl) (Nat.le_of_ble_eq_true rfl)
theorem exS (x : Int32) : (¬ x < 0 ∧ x ≤ 62) ∨ (x < 0 ∨ ¬ x ≤ 62) := by by_cases h : x < 0 <;> by_cases h2 : x ≤ 62 <;> simp [h, h2]
theorem d_D_put_0 : decode b_D_put 0 = .ok (.aload_n 0, 1) := by decide +kernel
theorem d_D_put_1 : decode b_D_put 1 = .ok (.iload_n 1, 1) := by decide +kernel
theorem d_D_put_2 : decode b_D_put 2 = .ok (.invokevirtual 37, 3) := by decide +kernel
theorem d_D_put_5 : decode b_D_put 5 = .ok (.iload_n 2, 1) := by decide +kernel
theorem d_D_put_6 : decode b_D_put 6 = .ok (.ifCond .lt 9, 3) := by decide +kernel
theorem d_D_put_9 : decode b_D_put 9 = .ok (.iload_n 2, 1) := by decide +kernel
theorem d_D_put_10 : decode b_D_put 10 = .ok (.bipush 9, 2) := by decide +kernel
theorem d_D_put_12 : decode b_D_put 12 = .ok (.if_icmp .lt 13, 3) := by decide +kernel
theorem d_D_put_15 : decode b_D_put 15 = .ok (.new 41, 3) := by decide +kernel
theorem d_D_put_18 : decode b_D_put 18 = .ok (.dup, 1) := by decide +kernel
theorem d_D_put_19 : decode b_D_put 19 = .ok (.ldc 43, 2) := by decide +kernel
theorem d_D_put_21 : decode b_D_put 21 = .ok (.invokespecial 45, 3) := by decide +kernel
theorem d_D_put_24 : decode b_D_put 24 = .ok (.athrow, 1) := by decide +kernel
theorem d_D_put_25 : decode b_D_put 25 = .ok (.aload_n 0, 1) := by decide +kernel
theorem d_D_put_26 : decode b_D_put 26 = .ok (.getfield 11, 3) := by decide +kernel
theorem d_D_put_29 : decode b_D_put 29 = .ok (.iload_n 1, 1) := by decide +kernel
theorem d_D_put_30 : decode b_D_put 30 = .ok (.aaload, 1) := by decide +kernel
theorem d_D_put_31 : decode b_D_put 31 = .ok (.iload_n 2, 1) := by decide +kernel
theorem d_D_put_32 : decode b_D_put 32 = .ok (.iload_n 3, 1) := by decide +kernel
theorem d_D_put_33 : decode b_D_put 33 = .ok (.invokevirtual 48, 3) := by decide +kernel
theorem d_D_put_36 : decode b_D_put 36 = .ok (.return_, 1) := by decide +kernel
theorem d_D_degree_0 : decode b_D_degree 0 = .ok (.aload_n 0, 1) := by decide +kernel
theorem d_D_degree_1 : decode b_D_degree 1 = .ok (.iload_n 1, 1) := by decide +kernel
theorem d_D_degree_2 : decode b_D_degree 2 = .ok (.invokevirtual 37, 3) := by decide +kernel
theorem d_D_degree_5 : decode b_D_degree 5 = .ok (.aload_n 0, 1) := by decide +kernel
theorem d_D_degree_6 : decode b_D_degree 6 = .ok (.getfield 11, 3) := by decide +kernel
theorem d_D_degree_9 : decode b_D_degree 9 = .ok (.iload_n 1, 1) := by decide +kernel
theorem d_D_degree_10 : decode b_D_degree 10 = .ok (.aaload, 1) := by decide +kernel
theorem d_D_degree_11 : decode b_D_degree 11 = .ok (.getfield 52, 3) := by decide +kernel
theorem d_D_degree_14 : decode b_D_degree 14 = .ok (.getfield 56, 3) := by decide +kernel
theorem d_D_degree_17 : decode b_D_degree 17 = .ok (.ireturn, 1) := by decide +kernel
theorem d_D_roots_0 : decode b_D_roots 0 = .ok (.aload_n 0, 1) := by decide +kernel
theorem d_D_roots_1 : decode b_D_roots 1 = .ok (.iload_n 1, 1) := by decide +kernel
theorem d_D_roots_2 : decode b_D_roots 2 = .ok (.invokevirtual 37, 3) := by decide +kernel
theorem d_D_roots_5 : decode b_D_roots 5 = .ok (.aload_n 0, 1) := by decide +kernel
theorem d_D_roots_6 : decode b_D_roots 6 = .ok (.iload_n 1, 1) := by decide +kernel
theorem d_D_roots_7 : decode b_D_roots 7 = .ok (.invokevirtual 62, 3) := by decide +kernel
theorem d_D_roots_10 : decode b_D_roots 10 = .ok (.astore_n 2, 1) := by decide +kernel
theorem d_D_roots_11 : decode b_D_roots 11 = .ok (.aload_n 2, 1) := by decide +kernel
theorem d_D_roots_12 : decode b_D_roots 12 = .ok (.aload_n 0, 1) := by decide +kernel
theorem d_D_roots_13 : decode b_D_roots 13 = .ok (.getfield 19, 3) := by decide +kernel
theorem d_D_roots_16 : decode b_D_roots 16 = .ok (.invokevirtual 66, 3) := by decide +kernel
theorem d_D_roots_19 : decode b_D_roots 19 = .ok (.aload_n 2, 1) := by decide +kernel
theorem d_D_roots_20 : decode b_D_roots 20 = .ok (.getfield 70, 3) := by decide +kernel
theorem d_D_roots_23 : decode b_D_roots 23 = .ok (.ireturn, 1) := by decide +kernel
theorem d_D_repeated_0 : decode b_D_repeated 0 = .ok (.aload_n 0, 1) := by decide +kernel
theorem d_D_repeated_1 : decode b_D_repeated 1 = .ok (.iload_n 1, 1) := by decide +kernel
theorem d_D_repeated_2 : decode b_D_repeated 2 = .ok (.invokevirtual 37, 3) := by decide +kernel
theorem d_D_repeated_5 : decode b_D_repeated 5 = .ok (.aload_n 0, 1) := by decide +kernel
theorem d_D_repeated_6 : decode b_D_repeated 6 = .ok (.iload_n 1, 1) := by decide +kernel
theorem d_D_repeated_7 : decode b_D_repeated 7 = .ok (.invokevirtual 62, 3) := by decide +kernel
theorem d_D_repeated_10 : decode b_D_repeated 10 = .ok (.astore_n 2, 1) := by decide +kernel
theorem d_D_repeated_11 : decode b_D_repeated 11 = .ok (.aload_n 2, 1) := by decide +kernel
theorem d_D_repeated_12 : decode b_D_repeated 12 = .ok (.aload_n 0, 1) := by decide +kernel
theorem d_D_repeated_13 : decode b_D_repeated 13 = .ok (.getfield 19, 3) := by decide +kernel
theorem d_D_repeated_16 : decode b_D_repeated 16 = .ok (.invokevirtual 66, 3) := by decide +kernel
theorem d_D_repeated_19 : decode b_D_repeated 19 = .ok (.aload_n 2, 1) := by decide +kernel
theorem d_D_repeated_20 : decode b_D_repeated 20 = .ok (.getfield 73, 3) := by decide +kernel
theorem d_D_repeated_23 : decode b_D_repeated 23 = .ok (.ireturn, 1) := by decide +kernel
theorem d_D_sign_0 : decode b_D_sign 0 = .ok (.aload_n 0, 1) := by decide +kernel
theorem d_D_sign_1 : decode b_D_sign 1 = .ok (.iload_n 1, 1) := by decide +kernel
theorem d_D_sign_2 : decode b_D_sign 2 = .ok (.invokevirtual 37, 3) := by decide +kernel
theorem d_D_sign_5 : decode b_D_sign 5 = .ok (.aload_n 0, 1) := by decide +kernel
theorem d_D_sign_6 : decode b_D_sign 6 = .ok (.iload 4, 2) := by decide +kernel
theorem d_D_sign_8 : decode b_D_sign 8 = .ok (.invokevirtual 76, 3) := by decide +kernel
theorem d_D_sign_11 : decode b_D_sign 11 = .ok (.aload_n 0, 1) := by decide +kernel
theorem d_D_sign_12 : decode b_D_sign 12 = .ok (.iload_n 1, 1) := by decide +kernel
theorem d_D_sign_13 : decode b_D_sign 13 = .ok (.invokevirtual 62, 3) := by decide +kernel
theorem d_D_sign_16 : decode b_D_sign 16 = .ok (.astore 5, 2) := by decide +kernel
theorem d_D_sign_18 : decode b_D_sign 18 = .ok (.aload_n 0, 1) := by decide +kernel
theorem d_D_sign_19 : decode b_D_sign 19 = .ok (.getfield 19, 3) := by decide +kernel
theorem d_D_sign_22 : decode b_D_sign 22 = .ok (.getfield 79, 3) := by decide +kernel
theorem d_D_sign_25 : decode b_D_sign 25 = .ok (.lload_n 2, 1) := by decide +kernel
theorem d_D_sign_26 : decode b_D_sign 26 = .ok (.iload 4, 2) := by decide +kernel
theorem d_D_sign_28 : decode b_D_sign 28 = .ok (.invokevirtual 83, 3) := by decide +kernel
theorem d_D_sign_31 : decode b_D_sign 31 = .ok (.aload_n 0, 1) := by decide +kernel
theorem d_D_sign_32 : decode b_D_sign 32 = .ok (.getfield 19, 3) := by decide +kernel
theorem d_D_sign_35 : decode b_D_sign 35 = .ok (.aload 5, 2) := by decide +kernel
theorem d_D_sign_37 : decode b_D_sign 37 = .ok (.getfield 52, 3) := by decide +kernel
theorem d_D_sign_40 : decode b_D_sign 40 = .ok (.aload_n 0, 1) := by decide +kernel
theorem d_D_sign_41 : decode b_D_sign 41 = .ok (.getfield 19, 3) := by decide +kernel
theorem d_D_sign_44 : decode b_D_sign 44 = .ok (.getfield 79, 3) := by decide +kernel
theorem d_D_sign_47 : decode b_D_sign 47 = .ok (.invokevirtual 89, 3) := by decide +kernel
theorem d_D_sign_50 : decode b_D_sign 50 = .ok (.getfield 93, 3) := by decide +kernel
theorem d_D_sign_53 : decode b_D_sign 53 = .ok (.ireturn, 1) := by decide +kernel
theorem d_D_between_0 : decode b_D_between 0 = .ok (.aload_n 0, 1) := by decide +kernel
theorem d_D_between_1 : decode b_D_between 1 = .ok (.iload_n 1, 1) := by decide +kernel
theorem d_D_between_2 : decode b_D_between 2 = .ok (.invokevirtual 37, 3) := by decide +kernel
theorem d_D_between_5 : decode b_D_between 5 = .ok (.aload_n 0, 1) := by decide +kernel
theorem d_D_between_6 : decode b_D_between 6 = .ok (.iload 4, 2) := by decide +kernel
theorem d_D_between_8 : decode b_D_between 8 = .ok (.invokevirtual 76, 3) := by decide +kernel
theorem d_D_between_11 : decode b_D_between 11 = .ok (.aload_n 0, 1) := by decide +kernel
theorem d_D_between_12 : decode b_D_between 12 = .ok (.iload 7, 2) := by decide +kernel
theorem d_D_between_14 : decode b_D_between 14 = .ok (.invokevirtual 76, 3) := by decide +kernel
theorem d_D_between_17 : decode b_D_between 17 = .ok (.aload_n 0, 1) := by decide +kernel
theorem d_D_between_18 : decode b_D_between 18 = .ok (.iload_n 1, 1) := by decide +kernel
theorem d_D_between_19 : decode b_D_between 19 = .ok (.invokevirtual 62, 3) := by decide +kernel
theorem d_D_between_22 : decode b_D_between 22 = .ok (.astore 8, 2) := by decide +kernel
theorem d_D_between_24 : decode b_D_between 24 = .ok (.aload 8, 2) := by decide +kernel
theorem d_D_between_26 : decode b_D_between 26 = .ok (.aload_n 0, 1) := by decide +kernel
theorem d_D_between_27 : decode b_D_between 27 = .ok (.getfield 19, 3) := by decide +kernel
theorem d_D_between_30 : decode b_D_between 30 = .ok (.invokevirtual 66, 3) := by decide +kernel
theorem d_D_between_33 : decode b_D_between 33 = .ok (.aload_n 0, 1) := by decide +kernel
theorem d_D_between_34 : decode b_D_between 34 = .ok (.getfield 19, 3) := by decide +kernel
theorem d_D_between_37 : decode b_D_between 37 = .ok (.getfield 79, 3) := by decide +kernel
theorem d_D_between_40 : decode b_D_between 40 = .ok (.lload_n 2, 1) := by decide +kernel
theorem d_D_between_41 : decode b_D_between 41 = .ok (.iload 4, 2) := by decide +kernel
theorem d_D_between_43 : decode b_D_between 43 = .ok (.invokevirtual 83, 3) := by decide +kernel
theorem d_D_between_46 : decode b_D_between 46 = .ok (.aload 8, 2) := by decide +kernel
theorem d_D_between_48 : decode b_D_between 48 = .ok (.aload_n 0, 1) := by decide +kernel
theorem d_D_between_49 : decode b_D_between 49 = .ok (.getfield 19, 3) := by decide +kernel
theorem d_D_between_52 : decode b_D_between 52 = .ok (.getfield 79, 3) := by decide +kernel
theorem d_D_between_55 : decode b_D_between 55 = .ok (.aload_n 0, 1) := by decide +kernel
theorem d_D_between_56 : decode b_D_between 56 = .ok (.getfield 19, 3) := by decide +kernel
theorem d_D_between_59 : decode b_D_between 59 = .ok (.invokevirtual 98, 3) := by decide +kernel
theorem d_D_between_62 : decode b_D_between 62 = .ok (.istore 9, 2) := by decide +kernel
theorem d_D_between_64 : decode b_D_between 64 = .ok (.aload_n 0, 1) := by decide +kernel
theorem d_D_between_65 : decode b_D_between 65 = .ok (.getfield 19, 3) := by decide +kernel
theorem d_D_between_68 : decode b_D_between 68 = .ok (.getfield 79, 3) := by decide +kernel
theorem d_D_between_71 : decode b_D_between 71 = .ok (.lload 5, 2) := by decide +kernel
theorem d_D_between_73 : decode b_D_between 73 = .ok (.iload 7, 2) := by decide +kernel
theorem d_D_between_75 : decode b_D_between 75 = .ok (.invokevirtual 83, 3) := by decide +kernel
theorem d_D_between_78 : decode b_D_between 78 = .ok (.aload 8, 2) := by decide +kernel
theorem d_D_between_80 : decode b_D_between 80 = .ok (.aload_n 0, 1) := by decide +kernel
theorem d_D_between_81 : decode b_D_between 81 = .ok (.getfield 19, 3) := by decide +kernel
theorem d_D_between_84 : decode b_D_between 84 = .ok (.getfield 79, 3) := by decide +kernel
theorem d_D_between_87 : decode b_D_between 87 = .ok (.aload_n 0, 1) := by decide +kernel
theorem d_D_between_88 : decode b_D_between 88 = .ok (.getfield 19, 3) := by decide +kernel
theorem d_D_between_91 : decode b_D_between 91 = .ok (.invokevirtual 98, 3) := by decide +kernel
theorem d_D_between_94 : decode b_D_between 94 = .ok (.istore 10, 2) := by decide +kernel
theorem d_D_between_96 : decode b_D_between 96 = .ok (.iconst 0, 1) := by decide +kernel
theorem d_D_between_97 : decode b_D_between 97 = .ok (.iload 10, 2) := by decide +kernel
theorem d_D_between_99 : decode b_D_between 99 = .ok (.iload 9, 2) := by decide +kernel
theorem d_D_between_101 : decode b_D_between 101 = .ok (.isub, 1) := by decide +kernel
theorem d_D_between_102 : decode b_D_between 102 = .ok (.invokestatic 102, 3) := by decide +kernel
theorem d_D_between_105 : decode b_D_between 105 = .ok (.ireturn, 1) := by decide +kernel
theorem d_D_multiple_0 : decode b_D_multiple 0 = .ok (.aload_n 0, 1) := by decide +kernel
theorem d_D_multiple_1 : decode b_D_multiple 1 = .ok (.iload_n 1, 1) := by decide +kernel
theorem d_D_multiple_2 : decode b_D_multiple 2 = .ok (.invokevirtual 37, 3) := by decide +kernel
theorem d_D_multiple_5 : decode b_D_multiple 5 = .ok (.aload_n 0, 1) := by decide +kernel
theorem d_D_multiple_6 : decode b_D_multiple 6 = .ok (.iload_n 1, 1) := by decide +kernel
theorem d_D_multiple_7 : decode b_D_multiple 7 = .ok (.invokevirtual 62, 3) := by decide +kernel
theorem d_D_multiple_10 : decode b_D_multiple 10 = .ok (.astore_n 3, 1) := by decide +kernel
theorem d_D_multiple_11 : decode b_D_multiple 11 = .ok (.aload_n 3, 1) := by decide +kernel
theorem d_D_multiple_12 : decode b_D_multiple 12 = .ok (.aload_n 0, 1) := by decide +kernel
theorem d_D_multiple_13 : decode b_D_multiple 13 = .ok (.getfield 19, 3) := by decide +kernel
theorem d_D_multiple_16 : decode b_D_multiple 16 = .ok (.invokevirtual 66, 3) := by decide +kernel
theorem d_D_multiple_19 : decode b_D_multiple 19 = .ok (.aload_n 0, 1) := by decide +kernel
theorem d_D_multiple_20 : decode b_D_multiple 20 = .ok (.aload_n 3, 1) := by decide +kernel
theorem d_D_multiple_21 : decode b_D_multiple 21 = .ok (.iload_n 2, 1) := by decide +kernel
theorem d_D_multiple_22 : decode b_D_multiple 22 = .ok (.invokevirtual 108, 3) := by decide +kernel
theorem d_D_multiple_25 : decode b_D_multiple 25 = .ok (.aload_n 3, 1) := by decide +kernel
theorem d_D_multiple_26 : decode b_D_multiple 26 = .ok (.getfield 73, 3) := by decide +kernel
theorem d_D_multiple_29 : decode b_D_multiple 29 = .ok (.ifCond .ne 5, 3) := by decide +kernel
theorem d_D_multiple_32 : decode b_D_multiple 32 = .ok (.iconst 1, 1) := by decide +kernel
theorem d_D_multiple_33 : decode b_D_multiple 33 = .ok (.ireturn, 1) := by decide +kernel
theorem d_D_multiple_34 : decode b_D_multiple 34 = .ok (.aload_n 3, 1) := by decide +kernel
theorem d_D_multiple_35 : decode b_D_multiple 35 = .ok (.iload_n 2, 1) := by decide +kernel
theorem d_D_multiple_36 : decode b_D_multiple 36 = .ok (.aload_n 0, 1) := by decide +kernel
theorem d_D_multiple_37 : decode b_D_multiple 37 = .ok (.getfield 19, 3) := by decide +kernel
theorem d_D_multiple_40 : decode b_D_multiple 40 = .ok (.invokevirtual 112, 3) := by decide +kernel
theorem d_D_multiple_43 : decode b_D_multiple 43 = .ok (.aload_n 0, 1) := by decide +kernel
theorem d_D_multiple_44 : decode b_D_multiple 44 = .ok (.getfield 26, 3) := by decide +kernel
theorem d_D_multiple_47 : decode b_D_multiple 47 = .ok (.aload_n 3, 1) := by decide +kernel
theorem d_D_multiple_48 : decode b_D_multiple 48 = .ok (.aload_n 3, 1) := by decide +kernel
theorem d_D_multiple_49 : decode b_D_multiple 49 = .ok (.getfield 116, 3) := by decide +kernel
theorem d_D_multiple_52 : decode b_D_multiple 52 = .ok (.iload_n 2, 1) := by decide +kernel
theorem d_D_multiple_53 : decode b_D_multiple 53 = .ok (.aaload, 1) := by decide +kernel
theorem d_D_multiple_54 : decode b_D_multiple 54 = .ok (.aload_n 0, 1) := by decide +kernel
theorem d_D_multiple_55 : decode b_D_multiple 55 = .ok (.getfield 19, 3) := by decide +kernel
theorem d_D_multiple_58 : decode b_D_multiple 58 = .ok (.invokevirtual 120, 3) := by decide +kernel
theorem d_D_multiple_61 : decode b_D_multiple 61 = .ok (.ireturn, 1) := by decide +kernel
theorem d_D_side_0 : decode b_D_side 0 = .ok (.aload_n 0, 1) := by decide +kernel
theorem d_D_side_1 : decode b_D_side 1 = .ok (.iload_n 1, 1) := by decide +kernel
theorem d_D_side_2 : decode b_D_side 2 = .ok (.invokevirtual 37, 3) := by decide +kernel
theorem d_D_side_5 : decode b_D_side 5 = .ok (.aload_n 0, 1) := by decide +kernel
theorem d_D_side_6 : decode b_D_side 6 = .ok (.iload 5, 2) := by decide +kernel
theorem d_D_side_8 : decode b_D_side 8 = .ok (.invokevirtual 76, 3) := by decide +kernel
theorem d_D_side_11 : decode b_D_side 11 = .ok (.aload_n 0, 1) := by decide +kernel
theorem d_D_side_12 : decode b_D_side 12 = .ok (.iload_n 1, 1) := by decide +kernel
theorem d_D_side_13 : decode b_D_side 13 = .ok (.invokevirtual 62, 3) := by decide +kernel
theorem d_D_side_16 : decode b_D_side 16 = .ok (.astore 6, 2) := by decide +kernel
theorem d_D_side_18 : decode b_D_side 18 = .ok (.aload 6, 2) := by decide +kernel
theorem d_D_side_20 : decode b_D_side 20 = .ok (.aload_n 0, 1) := by decide +kernel
theorem d_D_side_21 : decode b_D_side 21 = .ok (.getfield 19, 3) := by decide +kernel
theorem d_D_side_24 : decode b_D_side 24 = .ok (.invokevirtual 66, 3) := by decide +kernel
theorem d_D_side_27 : decode b_D_side 27 = .ok (.aload_n 0, 1) := by decide +kernel
theorem d_D_side_28 : decode b_D_side 28 = .ok (.aload 6, 2) := by decide +kernel
theorem d_D_side_30 : decode b_D_side 30 = .ok (.iload_n 2, 1) := by decide +kernel
theorem d_D_side_31 : decode b_D_side 31 = .ok (.invokevirtual 108, 3) := by decide +kernel
theorem d_D_side_34 : decode b_D_side 34 = .ok (.aload_n 0, 1) := by decide +kernel
theorem d_D_side_35 : decode b_D_side 35 = .ok (.getfield 19, 3) := by decide +kernel
theorem d_D_side_38 : decode b_D_side 38 = .ok (.getfield 79, 3) := by decide +kernel
theorem d_D_side_41 : decode b_D_side 41 = .ok (.lload_n 3, 1) := by decide +kernel
theorem d_D_side_42 : decode b_D_side 42 = .ok (.iload 5, 2) := by decide +kernel
theorem d_D_side_44 : decode b_D_side 44 = .ok (.invokevirtual 83, 3) := by decide +kernel
theorem d_D_side_47 : decode b_D_side 47 = .ok (.aload 6, 2) := by decide +kernel
theorem d_D_side_49 : decode b_D_side 49 = .ok (.iload_n 2, 1) := by decide +kernel
theorem d_D_side_50 : decode b_D_side 50 = .ok (.aload_n 0, 1) := by decide +kernel
theorem d_D_side_51 : decode b_D_side 51 = .ok (.getfield 19, 3) := by decide +kernel
theorem d_D_side_54 : decode b_D_side 54 = .ok (.getfield 79, 3) := by decide +kernel
theorem d_D_side_57 : decode b_D_side 57 = .ok (.aload_n 0, 1) := by decide +kernel
theorem d_D_side_58 : decode b_D_side 58 = .ok (.getfield 19, 3) := by decide +kernel
theorem d_D_side_61 : decode b_D_side 61 = .ok (.invokevirtual 124, 3) := by decide +kernel
theorem d_D_side_64 : decode b_D_side 64 = .ok (.ireturn, 1) := by decide +kernel
theorem d_D_floor_0 : decode b_D_floor 0 = .ok (.aload_n 0, 1) := by decide +kernel
theorem d_D_floor_1 : decode b_D_floor 1 = .ok (.iload_n 1, 1) := by decide +kernel
theorem d_D_floor_2 : decode b_D_floor 2 = .ok (.invokevirtual 37, 3) := by decide +kernel
theorem d_D_floor_5 : decode b_D_floor 5 = .ok (.iload 4, 2) := by decide +kernel
theorem d_D_floor_7 : decode b_D_floor 7 = .ok (.ifCond .lt 20, 3) := by decide +kernel
theorem d_D_floor_10 : decode b_D_floor 10 = .ok (.iload 4, 2) := by decide +kernel
theorem d_D_floor_12 : decode b_D_floor 12 = .ok (.iload_n 3, 1) := by decide +kernel
theorem d_D_floor_13 : decode b_D_floor 13 = .ok (.ifCond .eq 8, 3) := by decide +kernel
theorem d_D_floor_16 : decode b_D_floor 16 = .ok (.bipush 90, 2) := by decide +kernel
theorem d_D_floor_18 : decode b_D_floor 18 = .ok (.goto 6, 3) := by decide +kernel
theorem d_D_floor_21 : decode b_D_floor 21 = .ok (.sipush 300, 3) := by decide +kernel
theorem d_D_floor_24 : decode b_D_floor 24 = .ok (.if_icmp .le 13, 3) := by decide +kernel
theorem d_D_floor_27 : decode b_D_floor 27 = .ok (.new 41, 3) := by decide +kernel
theorem d_D_floor_30 : decode b_D_floor 30 = .ok (.dup, 1) := by decide +kernel
theorem d_D_floor_31 : decode b_D_floor 31 = .ok (.ldc 128, 2) := by decide +kernel
theorem d_D_floor_33 : decode b_D_floor 33 = .ok (.invokespecial 45, 3) := by decide +kernel
theorem d_D_floor_36 : decode b_D_floor 36 = .ok (.athrow, 1) := by decide +kernel
theorem d_D_floor_37 : decode b_D_floor 37 = .ok (.aload_n 0, 1) := by decide +kernel
theorem d_D_floor_38 : decode b_D_floor 38 = .ok (.iload_n 1, 1) := by decide +kernel
theorem d_D_floor_39 : decode b_D_floor 39 = .ok (.invokevirtual 62, 3) := by decide +kernel
theorem d_D_floor_42 : decode b_D_floor 42 = .ok (.astore 5, 2) := by decide +kernel
theorem d_D_floor_44 : decode b_D_floor 44 = .ok (.aload 5, 2) := by decide +kernel
theorem d_D_floor_46 : decode b_D_floor 46 = .ok (.aload_n 0, 1) := by decide +kernel
theorem d_D_floor_47 : decode b_D_floor 47 = .ok (.getfield 19, 3) := by decide +kernel
theorem d_D_floor_50 : decode b_D_floor 50 = .ok (.invokevirtual 66, 3) := by decide +kernel
theorem d_D_floor_53 : decode b_D_floor 53 = .ok (.aload_n 0, 1) := by decide +kernel
theorem d_D_floor_54 : decode b_D_floor 54 = .ok (.aload 5, 2) := by decide +kernel
theorem d_D_floor_56 : decode b_D_floor 56 = .ok (.iload_n 2, 1) := by decide +kernel
theorem d_D_floor_57 : decode b_D_floor 57 = .ok (.invokevirtual 108, 3) := by decide +kernel
theorem d_D_floor_60 : decode b_D_floor 60 = .ok (.aload 5, 2) := by decide +kernel
theorem d_D_floor_62 : decode b_D_floor 62 = .ok (.iload_n 2, 1) := by decide +kernel
theorem d_D_floor_63 : decode b_D_floor 63 = .ok (.aload_n 0, 1) := by decide +kernel
theorem d_D_floor_64 : decode b_D_floor 64 = .ok (.getfield 19, 3) := by decide +kernel
theorem d_D_floor_67 : decode b_D_floor 67 = .ok (.invokevirtual 112, 3) := by decide +kernel
theorem d_D_floor_70 : decode b_D_floor 70 = .ok (.aload 5, 2) := by decide +kernel
theorem d_D_floor_72 : decode b_D_floor 72 = .ok (.iload_n 2, 1) := by decide +kernel
theorem d_D_floor_73 : decode b_D_floor 73 = .ok (.iload_n 3, 1) := by decide +kernel
theorem d_D_floor_74 : decode b_D_floor 74 = .ok (.ifCond .eq 16, 3) := by decide +kernel
theorem d_D_floor_77 : decode b_D_floor 77 = .ok (.iload 4, 2) := by decide +kernel
theorem d_D_floor_79 : decode b_D_floor 79 = .ok (.bipush 10, 2) := by decide +kernel
theorem d_D_floor_81 : decode b_D_floor 81 = .ok (.imul, 1) := by decide +kernel
theorem d_D_floor_82 : decode b_D_floor 82 = .ok (.iconst 3, 1) := by decide +kernel
theorem d_D_floor_83 : decode b_D_floor 83 = .ok (.idiv, 1) := by decide +kernel
theorem d_D_floor_84 : decode b_D_floor 84 = .ok (.bipush 8, 2) := by decide +kernel
theorem d_D_floor_86 : decode b_D_floor 86 = .ok (.iadd, 1) := by decide +kernel
theorem d_D_floor_87 : decode b_D_floor 87 = .ok (.goto 5, 3) := by decide +kernel
theorem d_D_floor_90 : decode b_D_floor 90 = .ok (.iload 4, 2) := by decide +kernel
theorem d_D_floor_92 : decode b_D_floor 92 = .ok (.aload_n 0, 1) := by decide +kernel
theorem d_D_floor_93 : decode b_D_floor 93 = .ok (.getfield 19, 3) := by decide +kernel
theorem d_D_floor_96 : decode b_D_floor 96 = .ok (.invokevirtual 130, 3) := by decide +kernel
theorem d_D_floor_99 : decode b_D_floor 99 = .ok (.iload_n 3, 1) := by decide +kernel
theorem d_D_floor_100 : decode b_D_floor 100 = .ok (.ifCond .eq 18, 3) := by decide +kernel
theorem d_D_floor_103 : decode b_D_floor 103 = .ok (.aload 5, 2) := by decide +kernel
theorem d_D_floor_105 : decode b_D_floor 105 = .ok (.iload_n 2, 1) := by decide +kernel
theorem d_D_floor_106 : decode b_D_floor 106 = .ok (.iload 4, 2) := by decide +kernel
theorem d_D_floor_108 : decode b_D_floor 108 = .ok (.aload_n 0, 1) := by decide +kernel
theorem d_D_floor_109 : decode b_D_floor 109 = .ok (.getfield 19, 3) := by decide +kernel
theorem d_D_floor_112 : decode b_D_floor 112 = .ok (.invokevirtual 134, 3) := by decide +kernel
theorem d_D_floor_115 : decode b_D_floor 115 = .ok (.goto 15, 3) := by decide +kernel
theorem d_D_floor_118 : decode b_D_floor 118 = .ok (.aload 5, 2) := by decide +kernel
theorem d_D_floor_120 : decode b_D_floor 120 = .ok (.iload_n 2, 1) := by decide +kernel
theorem d_D_floor_121 : decode b_D_floor 121 = .ok (.iload 4, 2) := by decide +kernel
theorem d_D_floor_123 : decode b_D_floor 123 = .ok (.aload_n 0, 1) := by decide +kernel
theorem d_D_floor_124 : decode b_D_floor 124 = .ok (.getfield 19, 3) := by decide +kernel
theorem d_D_floor_127 : decode b_D_floor 127 = .ok (.invokevirtual 138, 3) := by decide +kernel
theorem d_D_floor_130 : decode b_D_floor 130 = .ok (.astore 6, 2) := by decide +kernel
theorem d_D_floor_132 : decode b_D_floor 132 = .ok (.aload_n 0, 1) := by decide +kernel
theorem d_D_floor_133 : decode b_D_floor 133 = .ok (.getfield 33, 3) := by decide +kernel
theorem d_D_floor_136 : decode b_D_floor 136 = .ok (.aload 6, 2) := by decide +kernel
theorem d_D_floor_138 : decode b_D_floor 138 = .ok (.invokevirtual 141, 3) := by decide +kernel
theorem d_D_floor_141 : decode b_D_floor 141 = .ok (.ireturn, 1) := by decide +kernel
theorem d_D_apart_0 : decode b_D_apart 0 = .ok (.aload_n 0, 1) := by decide +kernel
theorem d_D_apart_1 : decode b_D_apart 1 = .ok (.iload_n 1, 1) := by decide +kernel
theorem d_D_apart_2 : decode b_D_apart 2 = .ok (.invokevirtual 37, 3) := by decide +kernel
theorem d_D_apart_5 : decode b_D_apart 5 = .ok (.aload_n 0, 1) := by decide +kernel
theorem d_D_apart_6 : decode b_D_apart 6 = .ok (.iload_n 1, 1) := by decide +kernel
theorem d_D_apart_7 : decode b_D_apart 7 = .ok (.invokevirtual 62, 3) := by decide +kernel
theorem d_D_apart_10 : decode b_D_apart 10 = .ok (.astore_n 2, 1) := by decide +kernel
theorem d_D_apart_11 : decode b_D_apart 11 = .ok (.aload_n 2, 1) := by decide +kernel
theorem d_D_apart_12 : decode b_D_apart 12 = .ok (.aload_n 0, 1) := by decide +kernel
theorem d_D_apart_13 : decode b_D_apart 13 = .ok (.getfield 19, 3) := by decide +kernel
theorem d_D_apart_16 : decode b_D_apart 16 = .ok (.invokevirtual 66, 3) := by decide +kernel
theorem d_D_apart_19 : decode b_D_apart 19 = .ok (.iconst 0, 1) := by decide +kernel
theorem d_D_apart_20 : decode b_D_apart 20 = .ok (.istore_n 3, 1) := by decide +kernel
theorem d_D_apart_21 : decode b_D_apart 21 = .ok (.iconst 0, 1) := by decide +kernel
theorem d_D_apart_22 : decode b_D_apart 22 = .ok (.istore 4, 2) := by decide +kernel
theorem d_D_apart_24 : decode b_D_apart 24 = .ok (.iload 4, 2) := by decide +kernel
theorem d_D_apart_26 : decode b_D_apart 26 = .ok (.aload_n 2, 1) := by decide +kernel
theorem d_D_apart_27 : decode b_D_apart 27 = .ok (.getfield 70, 3) := by decide +kernel
theorem d_D_apart_30 : decode b_D_apart 30 = .ok (.if_icmp .ge 41, 3) := by decide +kernel
theorem d_D_apart_33 : decode b_D_apart 33 = .ok (.aload_n 2, 1) := by decide +kernel
theorem d_D_apart_34 : decode b_D_apart 34 = .ok (.iload 4, 2) := by decide +kernel
theorem d_D_apart_36 : decode b_D_apart 36 = .ok (.aload_n 0, 1) := by decide +kernel
theorem d_D_apart_37 : decode b_D_apart 37 = .ok (.getfield 19, 3) := by decide +kernel
theorem d_D_apart_40 : decode b_D_apart 40 = .ok (.invokevirtual 112, 3) := by decide +kernel
theorem d_D_apart_43 : decode b_D_apart 43 = .ok (.iload 4, 2) := by decide +kernel
theorem d_D_apart_45 : decode b_D_apart 45 = .ok (.ifCond .le 20, 3) := by decide +kernel
theorem d_D_apart_48 : decode b_D_apart 48 = .ok (.iload_n 3, 1) := by decide +kernel
theorem d_D_apart_49 : decode b_D_apart 49 = .ok (.aload_n 2, 1) := by decide +kernel
theorem d_D_apart_50 : decode b_D_apart 50 = .ok (.iload 4, 2) := by decide +kernel
theorem d_D_apart_52 : decode b_D_apart 52 = .ok (.iconst 1, 1) := by decide +kernel
theorem d_D_apart_53 : decode b_D_apart 53 = .ok (.isub, 1) := by decide +kernel
theorem d_D_apart_54 : decode b_D_apart 54 = .ok (.aload_n 0, 1) := by decide +kernel
theorem d_D_apart_55 : decode b_D_apart 55 = .ok (.getfield 19, 3) := by decide +kernel
theorem d_D_apart_58 : decode b_D_apart 58 = .ok (.invokevirtual 145, 3) := by decide +kernel
theorem d_D_apart_61 : decode b_D_apart 61 = .ok (.invokestatic 102, 3) := by decide +kernel
theorem d_D_apart_64 : decode b_D_apart 64 = .ok (.istore_n 3, 1) := by decide +kernel
theorem d_D_apart_65 : decode b_D_apart 65 = .ok (.iinc 4 1, 3) := by decide +kernel
theorem d_D_apart_68 : decode b_D_apart 68 = .ok (.goto (-44), 3) := by decide +kernel
theorem d_D_apart_71 : decode b_D_apart 71 = .ok (.iload_n 3, 1) := by decide +kernel
theorem d_D_apart_72 : decode b_D_apart 72 = .ok (.ireturn, 1) := by decide +kernel
theorem d_D_signAt_0 : decode b_D_signAt 0 = .ok (.aload_n 0, 1) := by decide +kernel
theorem d_D_signAt_1 : decode b_D_signAt 1 = .ok (.iload_n 1, 1) := by decide +kernel
theorem d_D_signAt_2 : decode b_D_signAt 2 = .ok (.invokevirtual 37, 3) := by decide +kernel
theorem d_D_signAt_5 : decode b_D_signAt 5 = .ok (.aload_n 0, 1) := by decide +kernel
theorem d_D_signAt_6 : decode b_D_signAt 6 = .ok (.iload_n 1, 1) := by decide +kernel
theorem d_D_signAt_7 : decode b_D_signAt 7 = .ok (.invokevirtual 62, 3) := by decide +kernel
theorem d_D_signAt_10 : decode b_D_signAt 10 = .ok (.astore_n 3, 1) := by decide +kernel
theorem d_D_signAt_11 : decode b_D_signAt 11 = .ok (.aload_n 0, 1) := by decide +kernel
theorem d_D_signAt_12 : decode b_D_signAt 12 = .ok (.iconst 1, 1) := by decide +kernel
theorem d_D_signAt_13 : decode b_D_signAt 13 = .ok (.iload_n 1, 1) := by decide +kernel
theorem d_D_signAt_14 : decode b_D_signAt 14 = .ok (.isub, 1) := by decide +kernel
theorem d_D_signAt_15 : decode b_D_signAt 15 = .ok (.invokevirtual 62, 3) := by decide +kernel
theorem d_D_signAt_18 : decode b_D_signAt 18 = .ok (.astore 4, 2) := by decide +kernel
theorem d_D_signAt_20 : decode b_D_signAt 20 = .ok (.aload_n 3, 1) := by decide +kernel
theorem d_D_signAt_21 : decode b_D_signAt 21 = .ok (.aload_n 0, 1) := by decide +kernel
theorem d_D_signAt_22 : decode b_D_signAt 22 = .ok (.getfield 19, 3) := by decide +kernel
theorem d_D_signAt_25 : decode b_D_signAt 25 = .ok (.invokevirtual 66, 3) := by decide +kernel
theorem d_D_signAt_28 : decode b_D_signAt 28 = .ok (.aload_n 0, 1) := by decide +kernel
theorem d_D_signAt_29 : decode b_D_signAt 29 = .ok (.aload_n 3, 1) := by decide +kernel
theorem d_D_signAt_30 : decode b_D_signAt 30 = .ok (.iload_n 2, 1) := by decide +kernel
theorem d_D_signAt_31 : decode b_D_signAt 31 = .ok (.invokevirtual 108, 3) := by decide +kernel
theorem d_D_signAt_34 : decode b_D_signAt 34 = .ok (.aload_n 3, 1) := by decide +kernel
theorem d_D_signAt_35 : decode b_D_signAt 35 = .ok (.iload_n 2, 1) := by decide +kernel
theorem d_D_signAt_36 : decode b_D_signAt 36 = .ok (.aload_n 0, 1) := by decide +kernel
theorem d_D_signAt_37 : decode b_D_signAt 37 = .ok (.getfield 19, 3) := by decide +kernel
theorem d_D_signAt_40 : decode b_D_signAt 40 = .ok (.invokevirtual 112, 3) := by decide +kernel
theorem d_D_signAt_43 : decode b_D_signAt 43 = .ok (.aload_n 0, 1) := by decide +kernel
theorem d_D_signAt_44 : decode b_D_signAt 44 = .ok (.getfield 26, 3) := by decide +kernel
theorem d_D_signAt_47 : decode b_D_signAt 47 = .ok (.aload_n 3, 1) := by decide +kernel
theorem d_D_signAt_48 : decode b_D_signAt 48 = .ok (.aload_n 3, 1) := by decide +kernel
theorem d_D_signAt_49 : decode b_D_signAt 49 = .ok (.getfield 116, 3) := by decide +kernel
theorem d_D_signAt_52 : decode b_D_signAt 52 = .ok (.iload_n 2, 1) := by decide +kernel
theorem d_D_signAt_53 : decode b_D_signAt 53 = .ok (.aaload, 1) := by decide +kernel
theorem d_D_signAt_54 : decode b_D_signAt 54 = .ok (.aload 4, 2) := by decide +kernel
theorem d_D_signAt_56 : decode b_D_signAt 56 = .ok (.getfield 52, 3) := by decide +kernel
theorem d_D_signAt_59 : decode b_D_signAt 59 = .ok (.aload_n 0, 1) := by decide +kernel
theorem d_D_signAt_60 : decode b_D_signAt 60 = .ok (.getfield 19, 3) := by decide +kernel
theorem d_D_signAt_63 : decode b_D_signAt 63 = .ok (.invokevirtual 153, 3) := by decide +kernel
theorem d_D_signAt_66 : decode b_D_signAt 66 = .ok (.ireturn, 1) := by decide +kernel
theorem d_D_order_0 : decode b_D_order 0 = .ok (.aload_n 0, 1) := by decide +kernel
theorem d_D_order_1 : decode b_D_order 1 = .ok (.iconst 0, 1) := by decide +kernel
theorem d_D_order_2 : decode b_D_order 2 = .ok (.invokevirtual 62, 3) := by decide +kernel
theorem d_D_order_5 : decode b_D_order 5 = .ok (.astore_n 3, 1) := by decide +kernel
theorem d_D_order_6 : decode b_D_order 6 = .ok (.aload_n 0, 1) := by decide +kernel
theorem d_D_order_7 : decode b_D_order 7 = .ok (.iconst 1, 1) := by decide +kernel
theorem d_D_order_8 : decode b_D_order 8 = .ok (.invokevirtual 62, 3) := by decide +kernel
theorem d_D_order_11 : decode b_D_order 11 = .ok (.astore 4, 2) := by decide +kernel
theorem d_D_order_13 : decode b_D_order 13 = .ok (.aload_n 3, 1) := by decide +kernel
theorem d_D_order_14 : decode b_D_order 14 = .ok (.aload_n 0, 1) := by decide +kernel
theorem d_D_order_15 : decode b_D_order 15 = .ok (.getfield 19, 3) := by decide +kernel
theorem d_D_order_18 : decode b_D_order 18 = .ok (.invokevirtual 66, 3) := by decide +kernel
theorem d_D_order_21 : decode b_D_order 21 = .ok (.aload 4, 2) := by decide +kernel
theorem d_D_order_23 : decode b_D_order 23 = .ok (.aload_n 0, 1) := by decide +kernel
theorem d_D_order_24 : decode b_D_order 24 = .ok (.getfield 19, 3) := by decide +kernel
theorem d_D_order_27 : decode b_D_order 27 = .ok (.invokevirtual 66, 3) := by decide +kernel
theorem d_D_order_30 : decode b_D_order 30 = .ok (.aload_n 0, 1) := by decide +kernel
theorem d_D_order_31 : decode b_D_order 31 = .ok (.aload_n 3, 1) := by decide +kernel
theorem d_D_order_32 : decode b_D_order 32 = .ok (.iload_n 1, 1) := by decide +kernel
theorem d_D_order_33 : decode b_D_order 33 = .ok (.invokevirtual 108, 3) := by decide +kernel
theorem d_D_order_36 : decode b_D_order 36 = .ok (.aload_n 0, 1) := by decide +kernel
theorem d_D_order_37 : decode b_D_order 37 = .ok (.aload 4, 2) := by decide +kernel
theorem d_D_order_39 : decode b_D_order 39 = .ok (.iload_n 2, 1) := by decide +kernel
theorem d_D_order_40 : decode b_D_order 40 = .ok (.invokevirtual 108, 3) := by decide +kernel
theorem d_D_order_43 : decode b_D_order 43 = .ok (.aload_n 3, 1) := by decide +kernel
theorem d_D_order_44 : decode b_D_order 44 = .ok (.iload_n 1, 1) := by decide +kernel
theorem d_D_order_45 : decode b_D_order 45 = .ok (.aload_n 0, 1) := by decide +kernel
theorem d_D_order_46 : decode b_D_order 46 = .ok (.getfield 19, 3) := by decide +kernel
theorem d_D_order_49 : decode b_D_order 49 = .ok (.invokevirtual 112, 3) := by decide +kernel
theorem d_D_order_52 : decode b_D_order 52 = .ok (.aload 4, 2) := by decide +kernel
theorem d_D_order_54 : decode b_D_order 54 = .ok (.iload_n 2, 1) := by decide +kernel
theorem d_D_order_55 : decode b_D_order 55 = .ok (.aload_n 0, 1) := by decide +kernel
theorem d_D_order_56 : decode b_D_order 56 = .ok (.getfield 19, 3) := by decide +kernel
theorem d_D_order_59 : decode b_D_order 59 = .ok (.invokevirtual 112, 3) := by decide +kernel
theorem d_D_order_62 : decode b_D_order 62 = .ok (.aload_n 0, 1) := by decide +kernel
theorem d_D_order_63 : decode b_D_order 63 = .ok (.getfield 26, 3) := by decide +kernel
theorem d_D_order_66 : decode b_D_order 66 = .ok (.aload_n 3, 1) := by decide +kernel
theorem d_D_order_67 : decode b_D_order 67 = .ok (.iload_n 1, 1) := by decide +kernel
theorem d_D_order_68 : decode b_D_order 68 = .ok (.aload 4, 2) := by decide +kernel
theorem d_D_order_70 : decode b_D_order 70 = .ok (.iload_n 2, 1) := by decide +kernel
theorem d_D_order_71 : decode b_D_order 71 = .ok (.aload_n 0, 1) := by decide +kernel
theorem d_D_order_72 : decode b_D_order 72 = .ok (.getfield 19, 3) := by decide +kernel
theorem d_D_order_75 : decode b_D_order 75 = .ok (.invokevirtual 149, 3) := by decide +kernel
theorem d_D_order_78 : decode b_D_order 78 = .ok (.ireturn, 1) := by decide +kernel
theorem d_D_common_0 : decode b_D_common 0 = .ok (.aload_n 0, 1) := by decide +kernel
theorem d_D_common_1 : decode b_D_common 1 = .ok (.iconst 0, 1) := by decide +kernel
theorem d_D_common_2 : decode b_D_common 2 = .ok (.invokevirtual 62, 3) := by decide +kernel
theorem d_D_common_5 : decode b_D_common 5 = .ok (.astore_n 1, 1) := by decide +kernel
theorem d_D_common_6 : decode b_D_common 6 = .ok (.aload_n 0, 1) := by decide +kernel
theorem d_D_common_7 : decode b_D_common 7 = .ok (.iconst 1, 1) := by decide +kernel
theorem d_D_common_8 : decode b_D_common 8 = .ok (.invokevirtual 62, 3) := by decide +kernel
theorem d_D_common_11 : decode b_D_common 11 = .ok (.astore_n 2, 1) := by decide +kernel
theorem d_D_common_12 : decode b_D_common 12 = .ok (.aload_n 1, 1) := by decide +kernel
theorem d_D_common_13 : decode b_D_common 13 = .ok (.aload_n 0, 1) := by decide +kernel
theorem d_D_common_14 : decode b_D_common 14 = .ok (.getfield 19, 3) := by decide +kernel
theorem d_D_common_17 : decode b_D_common 17 = .ok (.invokevirtual 66, 3) := by decide +kernel
theorem d_D_common_20 : decode b_D_common 20 = .ok (.aload_n 2, 1) := by decide +kernel
theorem d_D_common_21 : decode b_D_common 21 = .ok (.aload_n 0, 1) := by decide +kernel
theorem d_D_common_22 : decode b_D_common 22 = .ok (.getfield 19, 3) := by decide +kernel
theorem d_D_common_25 : decode b_D_common 25 = .ok (.invokevirtual 66, 3) := by decide +kernel
theorem d_D_common_28 : decode b_D_common 28 = .ok (.aload_n 0, 1) := by decide +kernel
theorem d_D_common_29 : decode b_D_common 29 = .ok (.getfield 26, 3) := by decide +kernel
theorem d_D_common_32 : decode b_D_common 32 = .ok (.aload_n 1, 1) := by decide +kernel
theorem d_D_common_33 : decode b_D_common 33 = .ok (.aload_n 2, 1) := by decide +kernel
theorem d_D_common_34 : decode b_D_common 34 = .ok (.aload_n 0, 1) := by decide +kernel
theorem d_D_common_35 : decode b_D_common 35 = .ok (.getfield 19, 3) := by decide +kernel
theorem d_D_common_38 : decode b_D_common 38 = .ok (.invokevirtual 157, 3) := by decide +kernel
theorem d_D_common_41 : decode b_D_common 41 = .ok (.ireturn, 1) := by decide +kernel
theorem d_D_out_0 : decode b_D_out 0 = .ok (.iload_n 1, 1) := by decide +kernel
theorem d_D_out_1 : decode b_D_out 1 = .ok (.ifCond .lt 14, 3) := by decide +kernel
theorem d_D_out_4 : decode b_D_out 4 = .ok (.iload_n 1, 1) := by decide +kernel
theorem d_D_out_5 : decode b_D_out 5 = .ok (.aload_n 0, 1) := by decide +kernel
theorem d_D_out_6 : decode b_D_out 6 = .ok (.getfield 33, 3) := by decide +kernel
theorem d_D_out_9 : decode b_D_out 9 = .ok (.getfield 161, 3) := by decide +kernel
theorem d_D_out_12 : decode b_D_out 12 = .ok (.if_icmp .lt 13, 3) := by decide +kernel
theorem d_D_out_15 : decode b_D_out 15 = .ok (.new 164, 3) := by decide +kernel
theorem d_D_out_18 : decode b_D_out 18 = .ok (.dup, 1) := by decide +kernel
theorem d_D_out_19 : decode b_D_out 19 = .ok (.ldc 166, 2) := by decide +kernel
theorem d_D_out_21 : decode b_D_out 21 = .ok (.invokespecial 168, 3) := by decide +kernel
theorem d_D_out_24 : decode b_D_out 24 = .ok (.athrow, 1) := by decide +kernel
theorem d_D_out_25 : decode b_D_out 25 = .ok (.aload_n 0, 1) := by decide +kernel
theorem d_D_out_26 : decode b_D_out 26 = .ok (.getfield 33, 3) := by decide +kernel
theorem d_D_out_29 : decode b_D_out 29 = .ok (.iload_n 1, 1) := by decide +kernel
theorem d_D_out_30 : decode b_D_out 30 = .ok (.invokevirtual 169, 3) := by decide +kernel
theorem d_D_out_33 : decode b_D_out 33 = .ok (.lreturn, 1) := by decide +kernel
set_option maxHeartbeats 4000000 in
set_option maxRecDepth 100000 in
theorem t_D_put_P (l : Launch) (hfl : nTr l) (K : pw_K) (f : pw_F) (a sz : Nat) (hdk : dkO K f a) (p0 p1 p2 : Int32) (hc : p0 < 0 ∨ ¬ p0 < 2) : pw_T l K y_D_put b_D_put 4 none (rmk 9 1 6) f [.ref a, .int p0, .int p1, .int p2] sz sIAE (fun f2 => f2 = f) := by
  refine pw_startT (by decide) (Nat.le_of_ble_eq_true rfl) ?_
  intro p e s m args below meth c ls X hne hh hz hS hl
  have hl : lv_has ls 4 [(0, .ref a), (1, .int p0), (2, .int p1), (3, .int p2)] := hl
  have hx := X.1
  have hb := X.2.1
  refine lv_aload_n hx hb d_D_put_0 rfl (lv_at hl 0 rfl) ?_
  refine lv_iload_n hx hb d_D_put_1 rfl (lv_at hl 1 rfl) ?_
  exact pw_callVT X hne hS (As := [.int p0]) (rest := []) (t_D_checkPolynomial l hfl K f a sz p0 hc) hz w_cd_D_checkPolynomial w_ini_D w_ml_D_37 w_im_D_checkPolynomial w_se_D_checkPolynomial (hdk.1) rfl hd_D_checkPolynomial rfl hl.1 (Nat.le_of_ble_eq_true rfl) d_D_put_2 ⟨Nat.le_of_ble_eq_true rfl, Nat.le_of_ble_eq_true rfl⟩ ⟨show 0 + 1 ≤ 1 by omega, show 0 + 6 ≤ 6 by omega⟩ (fun _ h => h) (show 0 + 1 ≤ 1 by omega) (show 0 + 6 ≤ 6 by omega)
set_option maxHeartbeats 4000000 in
set_option maxRecDepth 100000 in
theorem t_D_degree_P (l : Launch) (hfl : nTr l) (K : pw_K) (f : pw_F) (a sz : Nat) (hdk : dkO K f a) (p0 : Int32) (hc : p0 < 0 ∨ ¬ p0 < 2) : pw_T l K y_D_degree b_D_degree 2 (some .int) (rmk 9 1 6) f [.ref a, .int p0] sz sIAE (fun f2 => f2 = f) := by
  refine pw_startT (by decide) (Nat.le_of_ble_eq_true rfl) ?_
  intro p e s m args below meth c ls X hne hh hz hS hl
  have hl : lv_has ls 2 [(0, .ref a), (1, .int p0)] := hl
  have hx := X.1
  have hb := X.2.1
  refine lv_aload_n hx hb d_D_degree_0 rfl (lv_at hl 0 rfl) ?_
  refine lv_iload_n hx hb d_D_degree_1 rfl (lv_at hl 1 rfl) ?_
  exact pw_callVT X hne hS (As := [.int p0]) (rest := []) (t_D_checkPolynomial l hfl K f a sz p0 hc) hz w_cd_D_checkPolynomial w_ini_D w_ml_D_37 w_im_D_checkPolynomial w_se_D_checkPolynomial (hdk.1) rfl hd_D_checkPolynomial rfl hl.1 (Nat.le_of_ble_eq_true rfl) d_D_degree_2 ⟨Nat.le_of_ble_eq_true rfl, Nat.le_of_ble_eq_true rfl⟩ ⟨show 0 + 1 ≤ 1 by omega, show 0 + 6 ≤ 6 by omega⟩ (fun _ h => h) (show 0 + 1 ≤ 1 by omega) (show 0 + 6 ≤ 6 by omega)
set_option maxHeartbeats 4000000 in
set_option maxRecDepth 100000 in
theorem t_D_roots_P (l : Launch) (hfl : nTr l) (K : pw_K) (f : pw_F) (a sz : Nat) (hdk : dkO K f a) (p0 : Int32) (hc : p0 < 0 ∨ ¬ p0 < 2) : pw_T l K y_D_roots b_D_roots 3 (some .int) (rmk 9 1 6) f [.ref a, .int p0] sz sIAE (fun f2 => f2 = f) := by
  refine pw_startT (by decide) (Nat.le_of_ble_eq_true rfl) ?_
  intro p e s m args below meth c ls X hne hh hz hS hl
  have hl : lv_has ls 3 [(0, .ref a), (1, .int p0)] := hl
  have hx := X.1
  have hb := X.2.1
  refine lv_aload_n hx hb d_D_roots_0 rfl (lv_at hl 0 rfl) ?_
  refine lv_iload_n hx hb d_D_roots_1 rfl (lv_at hl 1 rfl) ?_
  exact pw_callVT X hne hS (As := [.int p0]) (rest := []) (t_D_checkPolynomial l hfl K f a sz p0 hc) hz w_cd_D_checkPolynomial w_ini_D w_ml_D_37 w_im_D_checkPolynomial w_se_D_checkPolynomial (hdk.1) rfl hd_D_checkPolynomial rfl hl.1 (Nat.le_of_ble_eq_true rfl) d_D_roots_2 ⟨Nat.le_of_ble_eq_true rfl, Nat.le_of_ble_eq_true rfl⟩ ⟨show 0 + 1 ≤ 1 by omega, show 0 + 6 ≤ 6 by omega⟩ (fun _ h => h) (show 0 + 1 ≤ 1 by omega) (show 0 + 6 ≤ 6 by omega)
set_option maxHeartbeats 4000000 in
set_option maxRecDepth 100000 in
theorem t_D_repeated_P (l : Launch) (hfl : nTr l) (K : pw_K) (f : pw_F) (a sz : Nat) (hdk : dkO K f a) (p0 : Int32) (hc : p0 < 0 ∨ ¬ p0 < 2) : pw_T l K y_D_repeated b_D_repeated 3 (some .int) (rmk 9 1 6) f [.ref a, .int p0] sz sIAE (fun f2 => f2 = f) := by
  refine pw_startT (by decide) (Nat.le_of_ble_eq_true rfl) ?_
  intro p e s m args below meth c ls X hne hh hz hS hl
  have hl : lv_has ls 3 [(0, .ref a), (1, .int p0)] := hl
  have hx := X.1
  have hb := X.2.1
  refine lv_aload_n hx hb d_D_repeated_0 rfl (lv_at hl 0 rfl) ?_
  refine lv_iload_n hx hb d_D_repeated_1 rfl (lv_at hl 1 rfl) ?_
  exact pw_callVT X hne hS (As := [.int p0]) (rest := []) (t_D_checkPolynomial l hfl K f a sz p0 hc) hz w_cd_D_checkPolynomial w_ini_D w_ml_D_37 w_im_D_checkPolynomial w_se_D_checkPolynomial (hdk.1) rfl hd_D_checkPolynomial rfl hl.1 (Nat.le_of_ble_eq_true rfl) d_D_repeated_2 ⟨Nat.le_of_ble_eq_true rfl, Nat.le_of_ble_eq_true rfl⟩ ⟨show 0 + 1 ≤ 1 by omega, show 0 + 6 ≤ 6 by omega⟩ (fun _ h => h) (show 0 + 1 ≤ 1 by omega) (show 0 + 6 ≤ 6 by omega)
set_option maxHeartbeats 4000000 in
set_option maxRecDepth 100000 in
theorem t_D_apart_P (l : Launch) (hfl : nTr l) (K : pw_K) (f : pw_F) (a sz : Nat) (hdk : dkO K f a) (p0 : Int32) (hc : p0 < 0 ∨ ¬ p0 < 2) : pw_T l K y_D_apart b_D_apart 5 (some .int) (rmk 9 1 6) f [.ref a, .int p0] sz sIAE (fun f2 => f2 = f) := by
  refine pw_startT (by decide) (Nat.le_of_ble_eq_true rfl) ?_
  intro p e s m args below meth c ls X hne hh hz hS hl
  have hl : lv_has ls 5 [(0, .ref a), (1, .int p0)] := hl
  have hx := X.1
  have hb := X.2.1
  refine lv_aload_n hx hb d_D_apart_0 rfl (lv_at hl 0 rfl) ?_
  refine lv_iload_n hx hb d_D_apart_1 rfl (lv_at hl 1 rfl) ?_
  exact pw_callVT X hne hS (As := [.int p0]) (rest := []) (t_D_checkPolynomial l hfl K f a sz p0 hc) hz w_cd_D_checkPolynomial w_ini_D w_ml_D_37 w_im_D_checkPolynomial w_se_D_checkPolynomial (hdk.1) rfl hd_D_checkPolynomial rfl hl.1 (Nat.le_of_ble_eq_true rfl) d_D_apart_2 ⟨Nat.le_of_ble_eq_true rfl, Nat.le_of_ble_eq_true rfl⟩ ⟨show 0 + 1 ≤ 1 by omega, show 0 + 6 ≤ 6 by omega⟩ (fun _ h => h) (show 0 + 1 ≤ 1 by omega) (show 0 + 6 ≤ 6 by omega)
set_option maxHeartbeats 4000000 in
set_option maxRecDepth 100000 in
theorem t_D_sign_P (l : Launch) (hfl : nTr l) (K : pw_K) (f : pw_F) (a sz : Nat) (hdk : dkO K f a) (p0 : Int32) (q1 : Int64) (p2 : Int32) (hc : p0 < 0 ∨ ¬ p0 < 2) : pw_T l K y_D_sign b_D_sign 6 (some .int) (rmk 9 1 6) f [.ref a, .int p0, .long q1, .int p2] sz sIAE (fun f2 => f2 = f) := by
  refine pw_startT (by decide) (Nat.le_of_ble_eq_true rfl) ?_
  intro p e s m args below meth c ls X hne hh hz hS hl
  have hl : lv_has ls 6 [(0, .ref a), (1, .int p0), (2, .long q1), (4, .int p2)] := hl
  have hx := X.1
  have hb := X.2.1
  refine lv_aload_n hx hb d_D_sign_0 rfl (lv_at hl 0 rfl) ?_
  refine lv_iload_n hx hb d_D_sign_1 rfl (lv_at hl 1 rfl) ?_
  exact pw_callVT X hne hS (As := [.int p0]) (rest := []) (t_D_checkPolynomial l hfl K f a sz p0 hc) hz w_cd_D_checkPolynomial w_ini_D w_ml_D_37 w_im_D_checkPolynomial w_se_D_checkPolynomial (hdk.1) rfl hd_D_checkPolynomial rfl hl.1 (Nat.le_of_ble_eq_true rfl) d_D_sign_2 ⟨Nat.le_of_ble_eq_true rfl, Nat.le_of_ble_eq_true rfl⟩ ⟨show 0 + 1 ≤ 1 by omega, show 0 + 6 ≤ 6 by omega⟩ (fun _ h => h) (show 0 + 1 ≤ 1 by omega) (show 0 + 6 ≤ 6 by omega)
set_option maxHeartbeats 4000000 in
set_option maxRecDepth 100000 in
theorem t_D_between_P (l : Launch) (hfl : nTr l) (K : pw_K) (f : pw_F) (a sz : Nat) (hdk : dkO K f a) (p0 : Int32) (q1 : Int64) (p2 : Int32) (q3 : Int64) (p4 : Int32) (hc : p0 < 0 ∨ ¬ p0 < 2) : pw_T l K y_D_between b_D_between 11 (some .int) (rmk 9 1 6) f [.ref a, .int p0, .long q1, .int p2, .long q3, .int p4] sz sIAE (fun f2 => f2 = f) := by
  refine pw_startT (by decide) (Nat.le_of_ble_eq_true rfl) ?_
  intro p e s m args below meth c ls X hne hh hz hS hl
  have hl : lv_has ls 11 [(0, .ref a), (1, .int p0), (2, .long q1), (4, .int p2), (5, .long q3), (7, .int p4)] := hl
  have hx := X.1
  have hb := X.2.1
  refine lv_aload_n hx hb d_D_between_0 rfl (lv_at hl 0 rfl) ?_
  refine lv_iload_n hx hb d_D_between_1 rfl (lv_at hl 1 rfl) ?_
  exact pw_callVT X hne hS (As := [.int p0]) (rest := []) (t_D_checkPolynomial l hfl K f a sz p0 hc) hz w_cd_D_checkPolynomial w_ini_D w_ml_D_37 w_im_D_checkPolynomial w_se_D_checkPolynomial (hdk.1) rfl hd_D_checkPolynomial rfl hl.1 (Nat.le_of_ble_eq_true rfl) d_D_between_2 ⟨Nat.le_of_ble_eq_true rfl, Nat.le_of_ble_eq_true rfl⟩ ⟨show 0 + 1 ≤ 1 by omega, show 0 + 6 ≤ 6 by omega⟩ (fun _ h => h) (show 0 + 1 ≤ 1 by omega) (show 0 + 6 ≤ 6 by omega)
set_option maxHeartbeats 4000000 in
set_option maxRecDepth 100000 in
theorem t_D_multiple_P (l : Launch) (hfl : nTr l) (K : pw_K) (f : pw_F) (a sz : Nat) (hdk : dkO K f a) (p0 p1 : Int32) (hc : p0 < 0 ∨ ¬ p0 < 2) : pw_T l K y_D_multiple b_D_multiple 4 (some .int) (rmk 9 1 6) f [.ref a, .int p0, .int p1] sz sIAE (fun f2 => f2 = f) := by
  refine pw_startT (by decide) (Nat.le_of_ble_eq_true rfl) ?_
  intro p e s m args below meth c ls X hne hh hz hS hl
  have hl : lv_has ls 4 [(0, .ref a), (1, .int p0), (2, .int p1)] := hl
  have hx := X.1
  have hb := X.2.1
  refine lv_aload_n hx hb d_D_multiple_0 rfl (lv_at hl 0 rfl) ?_
  refine lv_iload_n hx hb d_D_multiple_1 rfl (lv_at hl 1 rfl) ?_
  exact pw_callVT X hne hS (As := [.int p0]) (rest := []) (t_D_checkPolynomial l hfl K f a sz p0 hc) hz w_cd_D_checkPolynomial w_ini_D w_ml_D_37 w_im_D_checkPolynomial w_se_D_checkPolynomial (hdk.1) rfl hd_D_checkPolynomial rfl hl.1 (Nat.le_of_ble_eq_true rfl) d_D_multiple_2 ⟨Nat.le_of_ble_eq_true rfl, Nat.le_of_ble_eq_true rfl⟩ ⟨show 0 + 1 ≤ 1 by omega, show 0 + 6 ≤ 6 by omega⟩ (fun _ h => h) (show 0 + 1 ≤ 1 by omega) (show 0 + 6 ≤ 6 by omega)
set_option maxHeartbeats 4000000 in
set_option maxRecDepth 100000 in
theorem t_D_signAt_P (l : Launch) (hfl : nTr l) (K : pw_K) (f : pw_F) (a sz : Nat) (hdk : dkO K f a) (p0 p1 : Int32) (hc : p0 < 0 ∨ ¬ p0 < 2) : pw_T l K y_D_signAt b_D_signAt 5 (some .int) (rmk 9 1 6) f [.ref a, .int p0, .int p1] sz sIAE (fun f2 => f2 = f) := by
  refine pw_startT (by decide) (Nat.le_of_ble_eq_true rfl) ?_
  intro p e s m args below meth c ls X hne hh hz hS hl
  have hl : lv_has ls 5 [(0, .ref a), (1, .int p0), (2, .int p1)] := hl
  have hx := X.1
  have hb := X.2.1
  refine lv_aload_n hx hb d_D_signAt_0 rfl (lv_at hl 0 rfl) ?_
  refine lv_iload_n hx hb d_D_signAt_1 rfl (lv_at hl 1 rfl) ?_
  exact pw_callVT X hne hS (As := [.int p0]) (rest := []) (t_D_checkPolynomial l hfl K f a sz p0 hc) hz w_cd_D_checkPolynomial w_ini_D w_ml_D_37 w_im_D_checkPolynomial w_se_D_checkPolynomial (hdk.1) rfl hd_D_checkPolynomial rfl hl.1 (Nat.le_of_ble_eq_true rfl) d_D_signAt_2 ⟨Nat.le_of_ble_eq_true rfl, Nat.le_of_ble_eq_true rfl⟩ ⟨show 0 + 1 ≤ 1 by omega, show 0 + 6 ≤ 6 by omega⟩ (fun _ h => h) (show 0 + 1 ≤ 1 by omega) (show 0 + 6 ≤ 6 by omega)
set_option maxHeartbeats 4000000 in
set_option maxRecDepth 100000 in
theorem t_D_side_P (l : Launch) (hfl : nTr l) (K : pw_K) (f : pw_F) (a sz : Nat) (hdk : dkO K f a) (p0 p1 : Int32) (q2 : Int64) (p3 : Int32) (hc : p0 < 0 ∨ ¬ p0 < 2) : pw_T l K y_D_side b_D_side 7 (some .int) (rmk 9 1 6) f [.ref a, .int p0, .int p1, .long q2, .int p3] sz sIAE (fun f2 => f2 = f) := by
  refine pw_startT (by decide) (Nat.le_of_ble_eq_true rfl) ?_
  intro p e s m args below meth c ls X hne hh hz hS hl
  have hl : lv_has ls 7 [(0, .ref a), (1, .int p0), (2, .int p1), (3, .long q2), (5, .int p3)] := hl
  have hx := X.1
  have hb := X.2.1
  refine lv_aload_n hx hb d_D_side_0 rfl (lv_at hl 0 rfl) ?_
  refine lv_iload_n hx hb d_D_side_1 rfl (lv_at hl 1 rfl) ?_
  exact pw_callVT X hne hS (As := [.int p0]) (rest := []) (t_D_checkPolynomial l hfl K f a sz p0 hc) hz w_cd_D_checkPolynomial w_ini_D w_ml_D_37 w_im_D_checkPolynomial w_se_D_checkPolynomial (hdk.1) rfl hd_D_checkPolynomial rfl hl.1 (Nat.le_of_ble_eq_true rfl) d_D_side_2 ⟨Nat.le_of_ble_eq_true rfl, Nat.le_of_ble_eq_true rfl⟩ ⟨show 0 + 1 ≤ 1 by omega, show 0 + 6 ≤ 6 by omega⟩ (fun _ h => h) (show 0 + 1 ≤ 1 by omega) (show 0 + 6 ≤ 6 by omega)
set_option maxHeartbeats 4000000 in
set_option maxRecDepth 100000 in
theorem t_D_floor_P (l : Launch) (hfl : nTr l) (K : pw_K) (f : pw_F) (a sz : Nat) (hdk : dkO K f a) (p0 p1 p2 p3 : Int32) (hc : p0 < 0 ∨ ¬ p0 < 2) : pw_T l K y_D_floor b_D_floor 7 (some .int) (rmk 9 1 6) f [.ref a, .int p0, .int p1, .int p2, .int p3] sz sIAE (fun f2 => f2 = f) := by
  refine pw_startT (by decide) (Nat.le_of_ble_eq_true rfl) ?_
  intro p e s m args below meth c ls X hne hh hz hS hl
  have hl : lv_has ls 7 [(0, .ref a), (1, .int p0), (2, .int p1), (3, .int p2), (4, .int p3)] := hl
  have hx := X.1
  have hb := X.2.1
  refine lv_aload_n hx hb d_D_floor_0 rfl (lv_at hl 0 rfl) ?_
  refine lv_iload_n hx hb d_D_floor_1 rfl (lv_at hl 1 rfl) ?_
  exact pw_callVT X hne hS (As := [.int p0]) (rest := []) (t_D_checkPolynomial l hfl K f a sz p0 hc) hz w_cd_D_checkPolynomial w_ini_D w_ml_D_37 w_im_D_checkPolynomial w_se_D_checkPolynomial (hdk.1) rfl hd_D_checkPolynomial rfl hl.1 (Nat.le_of_ble_eq_true rfl) d_D_floor_2 ⟨Nat.le_of_ble_eq_true rfl, Nat.le_of_ble_eq_true rfl⟩ ⟨show 0 + 1 ≤ 1 by omega, show 0 + 6 ≤ 6 by omega⟩ (fun _ h => h) (show 0 + 1 ≤ 1 by omega) (show 0 + 6 ≤ 6 by omega)
set_option maxHeartbeats 4000000 in
set_option maxRecDepth 100000 in
theorem t_D_put_IAE (l : Launch) (hfl : nTr l) (K : pw_K) (f : pw_F) (a sz : Nat) (hdk : dkO K f a) (j : Nat) (p1 p2 : Int32) (hj : j < 2) (hc : p1 < 0 ∨ ¬ p1 < 9) : pw_T l K y_D_put b_D_put 4 none (rmk 9 1 6) f [.ref a, .int (nI j), .int p1, .int p2] sz sIAE (fun f2 => f2 = f) := by
  refine pw_startT (by decide) (Nat.le_of_ble_eq_true rfl) ?_
  intro p e s m args below meth c ls X hne hh hz hS hl
  have hl : lv_has ls 4 [(0, .ref a), (1, .int (nI j)), (2, .int p1), (3, .int p2)] := hl
  have hx := X.1
  have hb := X.2.1
  refine lv_aload_n hx hb d_D_put_0 rfl (lv_at hl 0 rfl) ?_
  refine lv_iload_n hx hb d_D_put_1 rfl (lv_at hl 1 rfl) ?_
  refine pw_callVR X hS (As := [.int (nI j)]) (rest := []) (r_D_checkPolynomial l K f a sz (nI j) (nI_pos (by omega)) (nI_lt (b := 2) (by omega) (by omega))) hz w_cd_D_checkPolynomial w_ini_D w_ml_D_37 w_im_D_checkPolynomial w_se_D_checkPolynomial (hdk.1) rfl hd_D_checkPolynomial rfl hl.1 (Nat.le_of_ble_eq_true rfl) d_D_put_2 ⟨Nat.le_of_ble_eq_true rfl, Nat.le_of_ble_eq_true rfl⟩ ⟨show 0 ≤ 1 by omega, show 0 ≤ 6 by omega⟩ ?_
  refine lv_iload_n hx hb d_D_put_5 rfl (lv_at hl 2 rfl) ?_
  refine lv_if_lt (tgt := 15) hx hb d_D_put_6 (by decide) (fun c1 => ?_) (fun c1 => ?_)
  · exact pw_throw (R := rmk 9 1 6) (mc := 1) (ms := 6) (post := fun f2 => f2 = f) hfl X hne hS hl.1 w_cl_D_41 (at_use X hS at_inS.1) (at_use X hS at_inI.1) (st_D X.2.2.2.2.2.2.2.1).2.1 (at_all X hS at_IAE) (by decide +kernel) (by decide +kernel) d_D_put_15 d_D_put_18 d_D_put_19 d_D_put_21 d_D_put_24 rfl (Nat.le_of_ble_eq_true rfl) (Nat.le_of_ble_eq_true rfl) (Nat.le_of_ble_eq_true rfl) (Nat.le_of_ble_eq_true rfl) (Nat.le_of_ble_eq_true rfl) (Nat.le_of_ble_eq_true rfl)
  · refine lv_iload_n hx hb d_D_put_9 rfl (lv_at hl 2 rfl) ?_
    refine lv_bipush (v := 9) hx hb d_D_put_10 (by decide) ?_
    refine lv_icmp_lt (tgt := 25) hx hb d_D_put_12 (by decide) (fun c2 => ?_) (fun c2 => ?_)
    · exact absurd hc (fun q => q.elim c1 (fun q2 => q2 c2))
    · exact pw_throw (R := rmk 9 1 6) (mc := 1) (ms := 6) (post := fun f2 => f2 = f) hfl X hne hS hl.1 w_cl_D_41 (at_use X hS at_inS.1) (at_use X hS at_inI.1) (st_D X.2.2.2.2.2.2.2.1).2.1 (at_all X hS at_IAE) (by decide +kernel) (by decide +kernel) d_D_put_15 d_D_put_18 d_D_put_19 d_D_put_21 d_D_put_24 rfl (Nat.le_of_ble_eq_true rfl) (Nat.le_of_ble_eq_true rfl) (Nat.le_of_ble_eq_true rfl) (Nat.le_of_ble_eq_true rfl) (Nat.le_of_ble_eq_true rfl) (Nat.le_of_ble_eq_true rfl)
set_option maxHeartbeats 4000000 in
set_option maxRecDepth 100000 in
theorem t_D_sign_IAE (l : Launch) (hfl : nTr l) (K : pw_K) (f : pw_F) (a sz : Nat) (hdk : dkO K f a) (j : Nat) (q1 : Int64) (p2 : Int32) (hj : j < 2) (hc : p2 < 0 ∨ ¬ p2 ≤ 62) : pw_T l K y_D_sign b_D_sign 6 (some .int) (rmk 9 1 6) f [.ref a, .int (nI j), .long q1, .int p2] sz sIAE (fun f2 => f2 = f) := by
  refine pw_startT (by decide) (Nat.le_of_ble_eq_true rfl) ?_
  intro p e s m args below meth c ls X hne hh hz hS hl
  have hl : lv_has ls 6 [(0, .ref a), (1, .int (nI j)), (2, .long q1), (4, .int p2)] := hl
  have hx := X.1
  have hb := X.2.1
  refine lv_aload_n hx hb d_D_sign_0 rfl (lv_at hl 0 rfl) ?_
  refine lv_iload_n hx hb d_D_sign_1 rfl (lv_at hl 1 rfl) ?_
  refine pw_callVR X hS (As := [.int (nI j)]) (rest := []) (r_D_checkPolynomial l K f a sz (nI j) (nI_pos (by omega)) (nI_lt (b := 2) (by omega) (by omega))) hz w_cd_D_checkPolynomial w_ini_D w_ml_D_37 w_im_D_checkPolynomial w_se_D_checkPolynomial (hdk.1) rfl hd_D_checkPolynomial rfl hl.1 (Nat.le_of_ble_eq_true rfl) d_D_sign_2 ⟨Nat.le_of_ble_eq_true rfl, Nat.le_of_ble_eq_true rfl⟩ ⟨show 0 ≤ 1 by omega, show 0 ≤ 6 by omega⟩ ?_
  refine lv_aload_n hx hb d_D_sign_5 rfl (lv_at hl 0 rfl) ?_
  refine lv_iload hx hb d_D_sign_6 (lv_at hl 3 rfl) ?_
  exact pw_callVT X hne hS (As := [.int p2]) (rest := []) (t_D_checkExponent l hfl K f a sz p2 hc) hz w_cd_D_checkExponent w_ini_D w_ml_D_76 w_im_D_checkExponent w_se_D_checkExponent (hdk.1) rfl hd_D_checkExponent rfl hl.1 (Nat.le_of_ble_eq_true rfl) d_D_sign_8 ⟨Nat.le_of_ble_eq_true rfl, Nat.le_of_ble_eq_true rfl⟩ ⟨show 0 + 1 ≤ 1 by omega, show 0 + 6 ≤ 6 by omega⟩ (fun _ h => h) (show 0 + 1 ≤ 1 by omega) (show 0 + 6 ≤ 6 by omega)
set_option maxHeartbeats 4000000 in
set_option maxRecDepth 100000 in
theorem t_D_side_IAE (l : Launch) (hfl : nTr l) (K : pw_K) (f : pw_F) (a sz : Nat) (hdk : dkO K f a) (j : Nat) (p1 : Int32) (q2 : Int64) (p3 : Int32) (hj : j < 2) (hc : p3 < 0 ∨ ¬ p3 ≤ 62) : pw_T l K y_D_side b_D_side 7 (some .int) (rmk 9 1 6) f [.ref a, .int (nI j), .int p1, .long q2, .int p3] sz sIAE (fun f2 => f2 = f) := by
  refine pw_startT (by decide) (Nat.le_of_ble_eq_true rfl) ?_
  intro p e s m args below meth c ls X hne hh hz hS hl
  have hl : lv_has ls 7 [(0, .ref a), (1, .int (nI j)), (2, .int p1), (3, .long q2), (5, .int p3)] := hl
  have hx := X.1
  have hb := X.2.1
  refine lv_aload_n hx hb d_D_side_0 rfl (lv_at hl 0 rfl) ?_
  refine lv_iload_n hx hb d_D_side_1 rfl (lv_at hl 1 rfl) ?_
  refine pw_callVR X hS (As := [.int (nI j)]) (rest := []) (r_D_checkPolynomial l K f a sz (nI j) (nI_pos (by omega)) (nI_lt (b := 2) (by omega) (by omega))) hz w_cd_D_checkPolynomial w_ini_D w_ml_D_37 w_im_D_checkPolynomial w_se_D_checkPolynomial (hdk.1) rfl hd_D_checkPolynomial rfl hl.1 (Nat.le_of_ble_eq_true rfl) d_D_side_2 ⟨Nat.le_of_ble_eq_true rfl, Nat.le_of_ble_eq_true rfl⟩ ⟨show 0 ≤ 1 by omega, show 0 ≤ 6 by omega⟩ ?_
  refine lv_aload_n hx hb d_D_side_5 rfl (lv_at hl 0 rfl) ?_
  refine lv_iload hx hb d_D_side_6 (lv_at hl 4 rfl) ?_
  exact pw_callVT X hne hS (As := [.int p3]) (rest := []) (t_D_checkExponent l hfl K f a sz p3 hc) hz w_cd_D_checkExponent w_ini_D w_ml_D_76 w_im_D_checkExponent w_se_D_checkExponent (hdk.1) rfl hd_D_checkExponent rfl hl.1 (Nat.le_of_ble_eq_true rfl) d_D_side_8 ⟨Nat.le_of_ble_eq_true rfl, Nat.le_of_ble_eq_true rfl⟩ ⟨show 0 + 1 ≤ 1 by omega, show 0 + 6 ≤ 6 by omega⟩ (fun _ h => h) (show 0 + 1 ≤ 1 by omega) (show 0 + 6 ≤ 6 by omega)
set_option maxHeartbeats 4000000 in
set_option maxRecDepth 100000 in
theorem t_D_between_IAE (l : Launch) (hfl : nTr l) (K : pw_K) (f : pw_F) (a sz : Nat) (hdk : dkO K f a) (j : Nat) (q1 : Int64) (p2 : Int32) (q3 : Int64) (p4 : Int32) (hj : j < 2) (hc : (p2 < 0 ∨ ¬ p2 ≤ 62) ∨ (p4 < 0 ∨ ¬ p4 ≤ 62)) : pw_T l K y_D_between b_D_between 11 (some .int) (rmk 9 1 6) f [.ref a, .int (nI j), .long q1, .int p2, .long q3, .int p4] sz sIAE (fun f2 => f2 = f) := by
  refine pw_startT (by decide) (Nat.le_of_ble_eq_true rfl) ?_
  intro p e s m args below meth c ls X hne hh hz hS hl
  have hl : lv_has ls 11 [(0, .ref a), (1, .int (nI j)), (2, .long q1), (4, .int p2), (5, .long q3), (7, .int p4)] := hl
  have hx := X.1
  have hb := X.2.1
  refine lv_aload_n hx hb d_D_between_0 rfl (lv_at hl 0 rfl) ?_
  refine lv_iload_n hx hb d_D_between_1 rfl (lv_at hl 1 rfl) ?_
  refine pw_callVR X hS (As := [.int (nI j)]) (rest := []) (r_D_checkPolynomial l K f a sz (nI j) (nI_pos (by omega)) (nI_lt (b := 2) (by omega) (by omega))) hz w_cd_D_checkPolynomial w_ini_D w_ml_D_37 w_im_D_checkPolynomial w_se_D_checkPolynomial (hdk.1) rfl hd_D_checkPolynomial rfl hl.1 (Nat.le_of_ble_eq_true rfl) d_D_between_2 ⟨Nat.le_of_ble_eq_true rfl, Nat.le_of_ble_eq_true rfl⟩ ⟨show 0 ≤ 1 by omega, show 0 ≤ 6 by omega⟩ ?_
  refine lv_aload_n hx hb d_D_between_5 rfl (lv_at hl 0 rfl) ?_
  refine lv_iload hx hb d_D_between_6 (lv_at hl 3 rfl) ?_
  rcases exS p2 with h2 | h2
  · refine pw_callVR X hS (As := [.int p2]) (rest := []) (r_D_checkExponent l K f a sz p2 h2.1 h2.2) hz w_cd_D_checkExponent w_ini_D w_ml_D_76 w_im_D_checkExponent w_se_D_checkExponent (hdk.1) rfl hd_D_checkExponent rfl hl.1 (Nat.le_of_ble_eq_true rfl) d_D_between_8 ⟨Nat.le_of_ble_eq_true rfl, Nat.le_of_ble_eq_true rfl⟩ ⟨show 0 ≤ 1 by omega, show 0 ≤ 6 by omega⟩ ?_
    refine lv_aload_n hx hb d_D_between_11 rfl (lv_at hl 0 rfl) ?_
    refine lv_iload hx hb d_D_between_12 (lv_at hl 5 rfl) ?_
    exact pw_callVT X hne hS (As := [.int p4]) (rest := []) (t_D_checkExponent l hfl K f a sz p4 (hc.elim (fun q => absurd h2 (fun z => q.elim z.1 (fun y => y z.2))) (fun q => q))) hz w_cd_D_checkExponent w_ini_D w_ml_D_76 w_im_D_checkExponent w_se_D_checkExponent (hdk.1) rfl hd_D_checkExponent rfl hl.1 (Nat.le_of_ble_eq_true rfl) d_D_between_14 ⟨Nat.le_of_ble_eq_true rfl, Nat.le_of_ble_eq_true rfl⟩ ⟨show 0 + 1 ≤ 1 by omega, show 0 + 6 ≤ 6 by omega⟩ (fun _ h => h) (show 0 + 1 ≤ 1 by omega) (show 0 + 6 ≤ 6 by omega)
  · exact pw_callVT X hne hS (As := [.int p2]) (rest := []) (t_D_checkExponent l hfl K f a sz p2 h2) hz w_cd_D_checkExponent w_ini_D w_ml_D_76 w_im_D_checkExponent w_se_D_checkExponent (hdk.1) rfl hd_D_checkExponent rfl hl.1 (Nat.le_of_ble_eq_true rfl) d_D_between_8 ⟨Nat.le_of_ble_eq_true rfl, Nat.le_of_ble_eq_true rfl⟩ ⟨show 0 + 1 ≤ 1 by omega, show 0 + 6 ≤ 6 by omega⟩ (fun _ h => h) (show 0 + 1 ≤ 1 by omega) (show 0 + 6 ≤ 6 by omega)
set_option maxHeartbeats 4000000 in
set_option maxRecDepth 100000 in
theorem t_D_floor_IAE (l : Launch) (hfl : nTr l) (K : pw_K) (f : pw_F) (a sz : Nat) (hdk : dkO K f a) (j : Nat) (p1 p2 p3 : Int32) (hj : j < 2) (hc : p3 < 0 ∨ (¬ p2 = 0 ∧ ¬ p3 ≤ 90) ∨ (p2 = 0 ∧ ¬ p3 ≤ 300)) : pw_T l K y_D_floor b_D_floor 7 (some .int) (rmk 9 1 6) f [.ref a, .int (nI j), .int p1, .int p2, .int p3] sz sIAE (fun f2 => f2 = f) := by
  refine pw_startT (by decide) (Nat.le_of_ble_eq_true rfl) ?_
  intro p e s m args below meth c ls X hne hh hz hS hl
  have hl : lv_has ls 7 [(0, .ref a), (1, .int (nI j)), (2, .int p1), (3, .int p2), (4, .int p3)] := hl
  have hx := X.1
  have hb := X.2.1
  refine lv_aload_n hx hb d_D_floor_0 rfl (lv_at hl 0 rfl) ?_
  refine lv_iload_n hx hb d_D_floor_1 rfl (lv_at hl 1 rfl) ?_
  refine pw_callVR X hS (As := [.int (nI j)]) (rest := []) (r_D_checkPolynomial l K f a sz (nI j) (nI_pos (by omega)) (nI_lt (b := 2) (by omega) (by omega))) hz w_cd_D_checkPolynomial w_ini_D w_ml_D_37 w_im_D_checkPolynomial w_se_D_checkPolynomial (hdk.1) rfl hd_D_checkPolynomial rfl hl.1 (Nat.le_of_ble_eq_true rfl) d_D_floor_2 ⟨Nat.le_of_ble_eq_true rfl, Nat.le_of_ble_eq_true rfl⟩ ⟨show 0 ≤ 1 by omega, show 0 ≤ 6 by omega⟩ ?_
  refine lv_iload hx hb d_D_floor_5 (lv_at hl 4 rfl) ?_
  refine lv_if_lt (tgt := 27) hx hb d_D_floor_7 (by decide) (fun c1 => ?_) (fun c1 => ?_)
  · exact pw_throw (R := rmk 9 1 6) (mc := 1) (ms := 6) (post := fun f2 => f2 = f) hfl X hne hS hl.1 w_cl_D_41 (at_use X hS at_inS.1) (at_use X hS at_inI.1) (st_D X.2.2.2.2.2.2.2.1).2.2.2.2.2.2 (at_all X hS at_IAE) (by decide +kernel) (by decide +kernel) d_D_floor_27 d_D_floor_30 d_D_floor_31 d_D_floor_33 d_D_floor_36 rfl (Nat.le_of_ble_eq_true rfl) (Nat.le_of_ble_eq_true rfl) (Nat.le_of_ble_eq_true rfl) (Nat.le_of_ble_eq_true rfl) (Nat.le_of_ble_eq_true rfl) (Nat.le_of_ble_eq_true rfl)
  · refine lv_iload hx hb d_D_floor_10 (lv_at hl 4 rfl) ?_
    refine lv_iload_n hx hb d_D_floor_12 rfl (lv_at hl 3 rfl) ?_
    refine lv_if_eq (tgt := 21) hx hb d_D_floor_13 (by decide) (fun c2 => ?_) (fun c2 => ?_)
    · refine lv_sipush (v := 300) hx hb d_D_floor_21 (by decide) ?_
      refine lv_icmp_le (tgt := 37) hx hb d_D_floor_24 (by decide) (fun c3 => ?_) (fun c3 => ?_)
      · exact absurd hc (fun q => q.elim c1 (fun q2 => q2.elim (fun z => z.1 c2) (fun z => z.2 c3)))
      · exact pw_throw (R := rmk 9 1 6) (mc := 1) (ms := 6) (post := fun f2 => f2 = f) hfl X hne hS hl.1 w_cl_D_41 (at_use X hS at_inS.1) (at_use X hS at_inI.1) (st_D X.2.2.2.2.2.2.2.1).2.2.2.2.2.2 (at_all X hS at_IAE) (by decide +kernel) (by decide +kernel) d_D_floor_27 d_D_floor_30 d_D_floor_31 d_D_floor_33 d_D_floor_36 rfl (Nat.le_of_ble_eq_true rfl) (Nat.le_of_ble_eq_true rfl) (Nat.le_of_ble_eq_true rfl) (Nat.le_of_ble_eq_true rfl) (Nat.le_of_ble_eq_true rfl) (Nat.le_of_ble_eq_true rfl)
    · refine lv_bipush (v := 90) hx hb d_D_floor_16 (by decide) ?_
      refine lv_goto (tgt := 24) hx hb d_D_floor_18 (by decide) ?_
      refine lv_icmp_le (tgt := 37) hx hb d_D_floor_24 (by decide) (fun c3 => ?_) (fun c3 => ?_)
      · exact absurd hc (fun q => q.elim c1 (fun q2 => q2.elim (fun z => z.2 c3) (fun z => c2 z.1)))
      · exact pw_throw (R := rmk 9 1 6) (mc := 1) (ms := 6) (post := fun f2 => f2 = f) hfl X hne hS hl.1 w_cl_D_41 (at_use X hS at_inS.1) (at_use X hS at_inI.1) (st_D X.2.2.2.2.2.2.2.1).2.2.2.2.2.2 (at_all X hS at_IAE) (by decide +kernel) (by decide +kernel) d_D_floor_27 d_D_floor_30 d_D_floor_31 d_D_floor_33 d_D_floor_36 rfl (Nat.le_of_ble_eq_true rfl) (Nat.le_of_ble_eq_true rfl) (Nat.le_of_ble_eq_true rfl) (Nat.le_of_ble_eq_true rfl) (Nat.le_of_ble_eq_true rfl) (Nat.le_of_ble_eq_true rfl)
set_option maxHeartbeats 4000000 in
set_option maxRecDepth 100000 in
theorem t_D_roots_ISE (l : Launch) (hfl : nTr l) (K : pw_K) (f : pw_F) (a sz : Nat) (hdk : dkO K f a) (j : Nat) (hj : j < 2) (rd ct sh sr rc dg : Int32) (hhe : heO f (a + 2 + 177 * j) rd ct sh sr rc) (hpy : pyO f (a + 2 + 177 * j + 2) dg)  (hdg : dg < 0) : pw_T l K y_D_roots b_D_roots 3 (some .int) (rmk 9 1 6) f [.ref a, .int (nI j)] sz sISE (fun f2 => f2 = f) := by
  refine pw_startT (by decide) (Nat.le_of_ble_eq_true rfl) ?_
  intro p e s m args below meth c ls X hne hh hz hS hl
  have hl : lv_has ls 3 [(0, .ref a), (1, .int (nI j))] := hl
  have hx := X.1
  have hb := X.2.1
  refine lv_aload_n hx hb d_D_roots_0 rfl (lv_at hl 0 rfl) ?_
  refine lv_iload_n hx hb d_D_roots_1 rfl (lv_at hl 1 rfl) ?_
  refine pw_callVR X hS (As := [.int (nI j)]) (rest := []) (r_D_checkPolynomial l K f a sz (nI j) (nI_pos (by omega)) (nI_lt (b := 2) (by omega) (by omega))) hz w_cd_D_checkPolynomial w_ini_D w_ml_D_37 w_im_D_checkPolynomial w_se_D_checkPolynomial (hdk.1) rfl hd_D_checkPolynomial rfl hl.1 (Nat.le_of_ble_eq_true rfl) d_D_roots_2 ⟨Nat.le_of_ble_eq_true rfl, Nat.le_of_ble_eq_true rfl⟩ ⟨show 0 ≤ 1 by omega, show 0 ≤ 6 by omega⟩ ?_
  refine lv_aload_n hx hb d_D_roots_5 rfl (lv_at hl 0 rfl) ?_
  refine lv_iload_n hx hb d_D_roots_6 rfl (lv_at hl 1 rfl) ?_
  exact pw_callVT X hne hS (As := [.int (nI j)]) (rest := []) (t_D_some l hfl K f a sz hdk j hj rd ct sh sr rc dg hhe hpy hdg) hz w_cd_D_some w_ini_D w_ml_D_62 w_im_D_some w_se_D_some (hdk.1) rfl hd_D_some rfl hl.1 (Nat.le_of_ble_eq_true rfl) d_D_roots_7 ⟨Nat.le_of_ble_eq_true rfl, Nat.le_of_ble_eq_true rfl⟩ ⟨show 0 + 1 ≤ 1 by omega, show 0 + 6 ≤ 6 by omega⟩ (fun _ h => h) (show 0 + 1 ≤ 1 by omega) (show 0 + 6 ≤ 6 by omega)
set_option maxHeartbeats 4000000 in
set_option maxRecDepth 100000 in
theorem t_D_repeated_ISE (l : Launch) (hfl : nTr l) (K : pw_K) (f : pw_F) (a sz : Nat) (hdk : dkO K f a) (j : Nat) (hj : j < 2) (rd ct sh sr rc dg : Int32) (hhe : heO f (a + 2 + 177 * j) rd ct sh sr rc) (hpy : pyO f (a + 2 + 177 * j + 2) dg)  (hdg : dg < 0) : pw_T l K y_D_repeated b_D_repeated 3 (some .int) (rmk 9 1 6) f [.ref a, .int (nI j)] sz sISE (fun f2 => f2 = f) := by
  refine pw_startT (by decide) (Nat.le_of_ble_eq_true rfl) ?_
  intro p e s m args below meth c ls X hne hh hz hS hl
  have hl : lv_has ls 3 [(0, .ref a), (1, .int (nI j))] := hl
  have hx := X.1
  have hb := X.2.1
  refine lv_aload_n hx hb d_D_repeated_0 rfl (lv_at hl 0 rfl) ?_
  refine lv_iload_n hx hb d_D_repeated_1 rfl (lv_at hl 1 rfl) ?_
  refine pw_callVR X hS (As := [.int (nI j)]) (rest := []) (r_D_checkPolynomial l K f a sz (nI j) (nI_pos (by omega)) (nI_lt (b := 2) (by omega) (by omega))) hz w_cd_D_checkPolynomial w_ini_D w_ml_D_37 w_im_D_checkPolynomial w_se_D_checkPolynomial (hdk.1) rfl hd_D_checkPolynomial rfl hl.1 (Nat.le_of_ble_eq_true rfl) d_D_repeated_2 ⟨Nat.le_of_ble_eq_true rfl, Nat.le_of_ble_eq_true rfl⟩ ⟨show 0 ≤ 1 by omega, show 0 ≤ 6 by omega⟩ ?_
  refine lv_aload_n hx hb d_D_repeated_5 rfl (lv_at hl 0 rfl) ?_
  refine lv_iload_n hx hb d_D_repeated_6 rfl (lv_at hl 1 rfl) ?_
  exact pw_callVT X hne hS (As := [.int (nI j)]) (rest := []) (t_D_some l hfl K f a sz hdk j hj rd ct sh sr rc dg hhe hpy hdg) hz w_cd_D_some w_ini_D w_ml_D_62 w_im_D_some w_se_D_some (hdk.1) rfl hd_D_some rfl hl.1 (Nat.le_of_ble_eq_true rfl) d_D_repeated_7 ⟨Nat.le_of_ble_eq_true rfl, Nat.le_of_ble_eq_true rfl⟩ ⟨show 0 + 1 ≤ 1 by omega, show 0 + 6 ≤ 6 by omega⟩ (fun _ h => h) (show 0 + 1 ≤ 1 by omega) (show 0 + 6 ≤ 6 by omega)
set_option maxHeartbeats 4000000 in
set_option maxRecDepth 100000 in
theorem t_D_apart_ISE (l : Launch) (hfl : nTr l) (K : pw_K) (f : pw_F) (a sz : Nat) (hdk : dkO K f a) (j : Nat) (hj : j < 2) (rd ct sh sr rc dg : Int32) (hhe : heO f (a + 2 + 177 * j) rd ct sh sr rc) (hpy : pyO f (a + 2 + 177 * j + 2) dg)  (hdg : dg < 0) : pw_T l K y_D_apart b_D_apart 5 (some .int) (rmk 9 1 6) f [.ref a, .int (nI j)] sz sISE (fun f2 => f2 = f) := by
  refine pw_startT (by decide) (Nat.le_of_ble_eq_true rfl) ?_
  intro p e s m args below meth c ls X hne hh hz hS hl
  have hl : lv_has ls 5 [(0, .ref a), (1, .int (nI j))] := hl
  have hx := X.1
  have hb := X.2.1
  refine lv_aload_n hx hb d_D_apart_0 rfl (lv_at hl 0 rfl) ?_
  refine lv_iload_n hx hb d_D_apart_1 rfl (lv_at hl 1 rfl) ?_
  refine pw_callVR X hS (As := [.int (nI j)]) (rest := []) (r_D_checkPolynomial l K f a sz (nI j) (nI_pos (by omega)) (nI_lt (b := 2) (by omega) (by omega))) hz w_cd_D_checkPolynomial w_ini_D w_ml_D_37 w_im_D_checkPolynomial w_se_D_checkPolynomial (hdk.1) rfl hd_D_checkPolynomial rfl hl.1 (Nat.le_of_ble_eq_true rfl) d_D_apart_2 ⟨Nat.le_of_ble_eq_true rfl, Nat.le_of_ble_eq_true rfl⟩ ⟨show 0 ≤ 1 by omega, show 0 ≤ 6 by omega⟩ ?_
  refine lv_aload_n hx hb d_D_apart_5 rfl (lv_at hl 0 rfl) ?_
  refine lv_iload_n hx hb d_D_apart_6 rfl (lv_at hl 1 rfl) ?_
  exact pw_callVT X hne hS (As := [.int (nI j)]) (rest := []) (t_D_some l hfl K f a sz hdk j hj rd ct sh sr rc dg hhe hpy hdg) hz w_cd_D_some w_ini_D w_ml_D_62 w_im_D_some w_se_D_some (hdk.1) rfl hd_D_some rfl hl.1 (Nat.le_of_ble_eq_true rfl) d_D_apart_7 ⟨Nat.le_of_ble_eq_true rfl, Nat.le_of_ble_eq_true rfl⟩ ⟨show 0 + 1 ≤ 1 by omega, show 0 + 6 ≤ 6 by omega⟩ (fun _ h => h) (show 0 + 1 ≤ 1 by omega) (show 0 + 6 ≤ 6 by omega)
set_option maxHeartbeats 4000000 in
set_option maxRecDepth 100000 in
theorem t_D_multiple_ISE (l : Launch) (hfl : nTr l) (K : pw_K) (f : pw_F) (a sz : Nat) (hdk : dkO K f a) (j : Nat) (hj : j < 2) (rd ct sh sr rc dg : Int32) (hhe : heO f (a + 2 + 177 * j) rd ct sh sr rc) (hpy : pyO f (a + 2 + 177 * j + 2) dg) (p1 : Int32) (hdg : dg < 0) : pw_T l K y_D_multiple b_D_multiple 4 (some .int) (rmk 9 1 6) f [.ref a, .int (nI j), .int p1] sz sISE (fun f2 => f2 = f) := by
  refine pw_startT (by decide) (Nat.le_of_ble_eq_true rfl) ?_
  intro p e s m args below meth c ls X hne hh hz hS hl
  have hl : lv_has ls 4 [(0, .ref a), (1, .int (nI j)), (2, .int p1)] := hl
  have hx := X.1
  have hb := X.2.1
  refine lv_aload_n hx hb d_D_multiple_0 rfl (lv_at hl 0 rfl) ?_
  refine lv_iload_n hx hb d_D_multiple_1 rfl (lv_at hl 1 rfl) ?_
  refine pw_callVR X hS (As := [.int (nI j)]) (rest := []) (r_D_checkPolynomial l K f a sz (nI j) (nI_pos (by omega)) (nI_lt (b := 2) (by omega) (by omega))) hz w_cd_D_checkPolynomial w_ini_D w_ml_D_37 w_im_D_checkPolynomial w_se_D_checkPolynomial (hdk.1) rfl hd_D_checkPolynomial rfl hl.1 (Nat.le_of_ble_eq_true rfl) d_D_multiple_2 ⟨Nat.le_of_ble_eq_true rfl, Nat.le_of_ble_eq_true rfl⟩ ⟨show 0 ≤ 1 by omega, show 0 ≤ 6 by omega⟩ ?_
  refine lv_aload_n hx hb d_D_multiple_5 rfl (lv_at hl 0 rfl) ?_
  refine lv_iload_n hx hb d_D_multiple_6 rfl (lv_at hl 1 rfl) ?_
  exact pw_callVT X hne hS (As := [.int (nI j)]) (rest := []) (t_D_some l hfl K f a sz hdk j hj rd ct sh sr rc dg hhe hpy hdg) hz w_cd_D_some w_ini_D w_ml_D_62 w_im_D_some w_se_D_some (hdk.1) rfl hd_D_some rfl hl.1 (Nat.le_of_ble_eq_true rfl) d_D_multiple_7 ⟨Nat.le_of_ble_eq_true rfl, Nat.le_of_ble_eq_true rfl⟩ ⟨show 0 + 1 ≤ 1 by omega, show 0 + 6 ≤ 6 by omega⟩ (fun _ h => h) (show 0 + 1 ≤ 1 by omega) (show 0 + 6 ≤ 6 by omega)
set_option maxHeartbeats 4000000 in
set_option maxRecDepth 100000 in
theorem t_D_signAt_ISE (l : Launch) (hfl : nTr l) (K : pw_K) (f : pw_F) (a sz : Nat) (hdk : dkO K f a) (j : Nat) (hj : j < 2) (rd ct sh sr rc dg : Int32) (hhe : heO f (a + 2 + 177 * j) rd ct sh sr rc) (hpy : pyO f (a + 2 + 177 * j + 2) dg) (p1 : Int32) (hdg : dg < 0) : pw_T l K y_D_signAt b_D_signAt 5 (some .int) (rmk 9 1 6) f [.ref a, .int (nI j), .int p1] sz sISE (fun f2 => f2 = f) := by
  refine pw_startT (by decide) (Nat.le_of_ble_eq_true rfl) ?_
  intro p e s m args below meth c ls X hne hh hz hS hl
  have hl : lv_has ls 5 [(0, .ref a), (1, .int (nI j)), (2, .int p1)] := hl
  have hx := X.1
  have hb := X.2.1
  refine lv_aload_n hx hb d_D_signAt_0 rfl (lv_at hl 0 rfl) ?_
  refine lv_iload_n hx hb d_D_signAt_1 rfl (lv_at hl 1 rfl) ?_
  refine pw_callVR X hS (As := [.int (nI j)]) (rest := []) (r_D_checkPolynomial l K f a sz (nI j) (nI_pos (by omega)) (nI_lt (b := 2) (by omega) (by omega))) hz w_cd_D_checkPolynomial w_ini_D w_ml_D_37 w_im_D_checkPolynomial w_se_D_checkPolynomial (hdk.1) rfl hd_D_checkPolynomial rfl hl.1 (Nat.le_of_ble_eq_true rfl) d_D_signAt_2 ⟨Nat.le_of_ble_eq_true rfl, Nat.le_of_ble_eq_true rfl⟩ ⟨show 0 ≤ 1 by omega, show 0 ≤ 6 by omega⟩ ?_
  refine lv_aload_n hx hb d_D_signAt_5 rfl (lv_at hl 0 rfl) ?_
  refine lv_iload_n hx hb d_D_signAt_6 rfl (lv_at hl 1 rfl) ?_
  exact pw_callVT X hne hS (As := [.int (nI j)]) (rest := []) (t_D_some l hfl K f a sz hdk j hj rd ct sh sr rc dg hhe hpy hdg) hz w_cd_D_some w_ini_D w_ml_D_62 w_im_D_some w_se_D_some (hdk.1) rfl hd_D_some rfl hl.1 (Nat.le_of_ble_eq_true rfl) d_D_signAt_7 ⟨Nat.le_of_ble_eq_true rfl, Nat.le_of_ble_eq_true rfl⟩ ⟨show 0 + 1 ≤ 1 by omega, show 0 + 6 ≤ 6 by omega⟩ (fun _ h => h) (show 0 + 1 ≤ 1 by omega) (show 0 + 6 ≤ 6 by omega)
set_option maxHeartbeats 4000000 in
set_option maxRecDepth 100000 in
theorem t_D_sign_ISE (l : Launch) (hfl : nTr l) (K : pw_K) (f : pw_F) (a sz : Nat) (hdk : dkO K f a) (j : Nat) (hj : j < 2) (rd ct sh sr rc dg : Int32) (hhe : heO f (a + 2 + 177 * j) rd ct sh sr rc) (hpy : pyO f (a + 2 + 177 * j + 2) dg) (q1 : Int64) (p2 : Int32) (e0 : ¬ p2 < 0) (e1 : p2 ≤ 62) (hdg : dg < 0) : pw_T l K y_D_sign b_D_sign 6 (some .int) (rmk 9 1 6) f [.ref a, .int (nI j), .long q1, .int p2] sz sISE (fun f2 => f2 = f) := by
  refine pw_startT (by decide) (Nat.le_of_ble_eq_true rfl) ?_
  intro p e s m args below meth c ls X hne hh hz hS hl
  have hl : lv_has ls 6 [(0, .ref a), (1, .int (nI j)), (2, .long q1), (4, .int p2)] := hl
  have hx := X.1
  have hb := X.2.1
  refine lv_aload_n hx hb d_D_sign_0 rfl (lv_at hl 0 rfl) ?_
  refine lv_iload_n hx hb d_D_sign_1 rfl (lv_at hl 1 rfl) ?_
  refine pw_callVR X hS (As := [.int (nI j)]) (rest := []) (r_D_checkPolynomial l K f a sz (nI j) (nI_pos (by omega)) (nI_lt (b := 2) (by omega) (by omega))) hz w_cd_D_checkPolynomial w_ini_D w_ml_D_37 w_im_D_checkPolynomial w_se_D_checkPolynomial (hdk.1) rfl hd_D_checkPolynomial rfl hl.1 (Nat.le_of_ble_eq_true rfl) d_D_sign_2 ⟨Nat.le_of_ble_eq_true rfl, Nat.le_of_ble_eq_true rfl⟩ ⟨show 0 ≤ 1 by omega, show 0 ≤ 6 by omega⟩ ?_
  refine lv_aload_n hx hb d_D_sign_5 rfl (lv_at hl 0 rfl) ?_
  refine lv_iload hx hb d_D_sign_6 (lv_at hl 3 rfl) ?_
  refine pw_callVR X hS (As := [.int p2]) (rest := []) (r_D_checkExponent l K f a sz p2 e0 e1) hz w_cd_D_checkExponent w_ini_D w_ml_D_76 w_im_D_checkExponent w_se_D_checkExponent (hdk.1) rfl hd_D_checkExponent rfl hl.1 (Nat.le_of_ble_eq_true rfl) d_D_sign_8 ⟨Nat.le_of_ble_eq_true rfl, Nat.le_of_ble_eq_true rfl⟩ ⟨show 0 ≤ 1 by omega, show 0 ≤ 6 by omega⟩ ?_
  refine lv_aload_n hx hb d_D_sign_11 rfl (lv_at hl 0 rfl) ?_
  refine lv_iload_n hx hb d_D_sign_12 rfl (lv_at hl 1 rfl) ?_
  exact pw_callVT X hne hS (As := [.int (nI j)]) (rest := []) (t_D_some l hfl K f a sz hdk j hj rd ct sh sr rc dg hhe hpy hdg) hz w_cd_D_some w_ini_D w_ml_D_62 w_im_D_some w_se_D_some (hdk.1) rfl hd_D_some rfl hl.1 (Nat.le_of_ble_eq_true rfl) d_D_sign_13 ⟨Nat.le_of_ble_eq_true rfl, Nat.le_of_ble_eq_true rfl⟩ ⟨show 0 + 1 ≤ 1 by omega, show 0 + 6 ≤ 6 by omega⟩ (fun _ h => h) (show 0 + 1 ≤ 1 by omega) (show 0 + 6 ≤ 6 by omega)
set_option maxHeartbeats 4000000 in
set_option maxRecDepth 100000 in
theorem t_D_side_ISE (l : Launch) (hfl : nTr l) (K : pw_K) (f : pw_F) (a sz : Nat) (hdk : dkO K f a) (j : Nat) (hj : j < 2) (rd ct sh sr rc dg : Int32) (hhe : heO f (a + 2 + 177 * j) rd ct sh sr rc) (hpy : pyO f (a + 2 + 177 * j + 2) dg) (p1 : Int32) (q2 : Int64) (p3 : Int32) (e0 : ¬ p3 < 0) (e1 : p3 ≤ 62) (hdg : dg < 0) : pw_T l K y_D_side b_D_side 7 (some .int) (rmk 9 1 6) f [.ref a, .int (nI j), .int p1, .long q2, .int p3] sz sISE (fun f2 => f2 = f) := by
  refine pw_startT (by decide) (Nat.le_of_ble_eq_true rfl) ?_
  intro p e s m args below meth c ls X hne hh hz hS hl
  have hl : lv_has ls 7 [(0, .ref a), (1, .int (nI j)), (2, .int p1), (3, .long q2), (5, .int p3)] := hl
  have hx := X.1
  have hb := X.2.1
  refine lv_aload_n hx hb d_D_side_0 rfl (lv_at hl 0 rfl) ?_
  refine lv_iload_n hx hb d_D_side_1 rfl (lv_at hl 1 rfl) ?_
  refine pw_callVR X hS (As := [.int (nI j)]) (rest := []) (r_D_checkPolynomial l K f a sz (nI j) (nI_pos (by omega)) (nI_lt (b := 2) (by omega) (by omega))) hz w_cd_D_checkPolynomial w_ini_D w_ml_D_37 w_im_D_checkPolynomial w_se_D_checkPolynomial (hdk.1) rfl hd_D_checkPolynomial rfl hl.1 (Nat.le_of_ble_eq_true rfl) d_D_side_2 ⟨Nat.le_of_ble_eq_true rfl, Nat.le_of_ble_eq_true rfl⟩ ⟨show 0 ≤ 1 by omega, show 0 ≤ 6 by omega⟩ ?_
  refine lv_aload_n hx hb d_D_side_5 rfl (lv_at hl 0 rfl) ?_
  refine lv_iload hx hb d_D_side_6 (lv_at hl 4 rfl) ?_
  refine pw_callVR X hS (As := [.int p3]) (rest := []) (r_D_checkExponent l K f a sz p3 e0 e1) hz w_cd_D_checkExponent w_ini_D w_ml_D_76 w_im_D_checkExponent w_se_D_checkExponent (hdk.1) rfl hd_D_checkExponent rfl hl.1 (Nat.le_of_ble_eq_true rfl) d_D_side_8 ⟨Nat.le_of_ble_eq_true rfl, Nat.le_of_ble_eq_true rfl⟩ ⟨show 0 ≤ 1 by omega, show 0 ≤ 6 by omega⟩ ?_
  refine lv_aload_n hx hb d_D_side_11 rfl (lv_at hl 0 rfl) ?_
  refine lv_iload_n hx hb d_D_side_12 rfl (lv_at hl 1 rfl) ?_
  exact pw_callVT X hne hS (As := [.int (nI j)]) (rest := []) (t_D_some l hfl K f a sz hdk j hj rd ct sh sr rc dg hhe hpy hdg) hz w_cd_D_some w_ini_D w_ml_D_62 w_im_D_some w_se_D_some (hdk.1) rfl hd_D_some rfl hl.1 (Nat.le_of_ble_eq_true rfl) d_D_side_13 ⟨Nat.le_of_ble_eq_true rfl, Nat.le_of_ble_eq_true rfl⟩ ⟨show 0 + 1 ≤ 1 by omega, show 0 + 6 ≤ 6 by omega⟩ (fun _ h => h) (show 0 + 1 ≤ 1 by omega) (show 0 + 6 ≤ 6 by omega)
set_option maxHeartbeats 4000000 in
set_option maxRecDepth 100000 in
theorem t_D_between_ISE (l : Launch) (hfl : nTr l) (K : pw_K) (f : pw_F) (a sz : Nat) (hdk : dkO K f a) (j : Nat) (hj : j < 2) (rd ct sh sr rc dg : Int32) (hhe : heO f (a + 2 + 177 * j) rd ct sh sr rc) (hpy : pyO f (a + 2 + 177 * j + 2) dg) (q1 : Int64) (p2 : Int32) (q3 : Int64) (p4 : Int32) (e0 : ¬ p2 < 0) (e1 : p2 ≤ 62) (e2 : ¬ p4 < 0) (e3 : p4 ≤ 62) (hdg : dg < 0) : pw_T l K y_D_between b_D_between 11 (some .int) (rmk 9 1 6) f [.ref a, .int (nI j), .long q1, .int p2, .long q3, .int p4] sz sISE (fun f2 => f2 = f) := by
  refine pw_startT (by decide) (Nat.le_of_ble_eq_true rfl) ?_
  intro p e s m args below meth c ls X hne hh hz hS hl
  have hl : lv_has ls 11 [(0, .ref a), (1, .int (nI j)), (2, .long q1), (4, .int p2), (5, .long q3), (7, .int p4)] := hl
  have hx := X.1
  have hb := X.2.1
  refine lv_aload_n hx hb d_D_between_0 rfl (lv_at hl 0 rfl) ?_
  refine lv_iload_n hx hb d_D_between_1 rfl (lv_at hl 1 rfl) ?_
  refine pw_callVR X hS (As := [.int (nI j)]) (rest := []) (r_D_checkPolynomial l K f a sz (nI j) (nI_pos (by omega)) (nI_lt (b := 2) (by omega) (by omega))) hz w_cd_D_checkPolynomial w_ini_D w_ml_D_37 w_im_D_checkPolynomial w_se_D_checkPolynomial (hdk.1) rfl hd_D_checkPolynomial rfl hl.1 (Nat.le_of_ble_eq_true rfl) d_D_between_2 ⟨Nat.le_of_ble_eq_true rfl, Nat.le_of_ble_eq_true rfl⟩ ⟨show 0 ≤ 1 by omega, show 0 ≤ 6 by omega⟩ ?_
  refine lv_aload_n hx hb d_D_between_5 rfl (lv_at hl 0 rfl) ?_
  refine lv_iload hx hb d_D_between_6 (lv_at hl 3 rfl) ?_
  refine pw_callVR X hS (As := [.int p2]) (rest := []) (r_D_checkExponent l K f a sz p2 e0 e1) hz w_cd_D_checkExponent w_ini_D w_ml_D_76 w_im_D_checkExponent w_se_D_checkExponent (hdk.1) rfl hd_D_checkExponent rfl hl.1 (Nat.le_of_ble_eq_true rfl) d_D_between_8 ⟨Nat.le_of_ble_eq_true rfl, Nat.le_of_ble_eq_true rfl⟩ ⟨show 0 ≤ 1 by omega, show 0 ≤ 6 by omega⟩ ?_
  refine lv_aload_n hx hb d_D_between_11 rfl (lv_at hl 0 rfl) ?_
  refine lv_iload hx hb d_D_between_12 (lv_at hl 5 rfl) ?_
  refine pw_callVR X hS (As := [.int p4]) (rest := []) (r_D_checkExponent l K f a sz p4 e2 e3) hz w_cd_D_checkExponent w_ini_D w_ml_D_76 w_im_D_checkExponent w_se_D_checkExponent (hdk.1) rfl hd_D_checkExponent rfl hl.1 (Nat.le_of_ble_eq_true rfl) d_D_between_14 ⟨Nat.le_of_ble_eq_true rfl, Nat.le_of_ble_eq_true rfl⟩ ⟨show 0 ≤ 1 by omega, show 0 ≤ 6 by omega⟩ ?_
  refine lv_aload_n hx hb d_D_between_17 rfl (lv_at hl 0 rfl) ?_
  refine lv_iload_n hx hb d_D_between_18 rfl (lv_at hl 1 rfl) ?_
  exact pw_callVT X hne hS (As := [.int (nI j)]) (rest := []) (t_D_some l hfl K f a sz hdk j hj rd ct sh sr rc dg hhe hpy hdg) hz w_cd_D_some w_ini_D w_ml_D_62 w_im_D_some w_se_D_some (hdk.1) rfl hd_D_some rfl hl.1 (Nat.le_of_ble_eq_true rfl) d_D_between_19 ⟨Nat.le_of_ble_eq_true rfl, Nat.le_of_ble_eq_true rfl⟩ ⟨show 0 + 1 ≤ 1 by omega, show 0 + 6 ≤ 6 by omega⟩ (fun _ h => h) (show 0 + 1 ≤ 1 by omega) (show 0 + 6 ≤ 6 by omega)
set_option maxHeartbeats 4000000 in
set_option maxRecDepth 100000 in
theorem t_D_floor_ISE (l : Launch) (hfl : nTr l) (K : pw_K) (f : pw_F) (a sz : Nat) (hdk : dkO K f a) (j : Nat) (hj : j < 2) (rd ct sh sr rc dg : Int32) (hhe : heO f (a + 2 + 177 * j) rd ct sh sr rc) (hpy : pyO f (a + 2 + 177 * j + 2) dg) (p1 p2 p3 : Int32) (e0 : ¬ p3 < 0) (e1 : (¬ p2 = 0 → p3 ≤ 90) ∧ (p2 = 0 → p3 ≤ 300)) (hdg : dg < 0) : pw_T l K y_D_floor b_D_floor 7 (some .int) (rmk 9 1 6) f [.ref a, .int (nI j), .int p1, .int p2, .int p3] sz sISE (fun f2 => f2 = f) := by
  refine pw_startT (by decide) (Nat.le_of_ble_eq_true rfl) ?_
  intro p e s m args below meth c ls X hne hh hz hS hl
  have hl : lv_has ls 7 [(0, .ref a), (1, .int (nI j)), (2, .int p1), (3, .int p2), (4, .int p3)] := hl
  have hx := X.1
  have hb := X.2.1
  refine lv_aload_n hx hb d_D_floor_0 rfl (lv_at hl 0 rfl) ?_
  refine lv_iload_n hx hb d_D_floor_1 rfl (lv_at hl 1 rfl) ?_
  refine pw_callVR X hS (As := [.int (nI j)]) (rest := []) (r_D_checkPolynomial l K f a sz (nI j) (nI_pos (by omega)) (nI_lt (b := 2) (by omega) (by omega))) hz w_cd_D_checkPolynomial w_ini_D w_ml_D_37 w_im_D_checkPolynomial w_se_D_checkPolynomial (hdk.1) rfl hd_D_checkPolynomial rfl hl.1 (Nat.le_of_ble_eq_true rfl) d_D_floor_2 ⟨Nat.le_of_ble_eq_true rfl, Nat.le_of_ble_eq_true rfl⟩ ⟨show 0 ≤ 1 by omega, show 0 ≤ 6 by omega⟩ ?_
  refine lv_iload hx hb d_D_floor_5 (lv_at hl 4 rfl) ?_
  refine lv_if_lt (tgt := 27) hx hb d_D_floor_7 (by decide) (fun c1 => ?_) (fun c1 => ?_)
  · exact absurd c1 e0
  · refine lv_iload hx hb d_D_floor_10 (lv_at hl 4 rfl) ?_
    refine lv_iload_n hx hb d_D_floor_12 rfl (lv_at hl 3 rfl) ?_
    refine lv_if_eq (tgt := 21) hx hb d_D_floor_13 (by decide) (fun c2 => ?_) (fun c2 => ?_)
    · refine lv_sipush (v := 300) hx hb d_D_floor_21 (by decide) ?_
      refine lv_icmp_le (tgt := 37) hx hb d_D_floor_24 (by decide) (fun c3 => ?_) (fun c3 => ?_)
      · refine lv_aload_n hx hb d_D_floor_37 rfl (lv_at hl 0 rfl) ?_
        refine lv_iload_n hx hb d_D_floor_38 rfl (lv_at hl 1 rfl) ?_
        exact pw_callVT X hne hS (As := [.int (nI j)]) (rest := []) (t_D_some l hfl K f a sz hdk j hj rd ct sh sr rc dg hhe hpy hdg) hz w_cd_D_some w_ini_D w_ml_D_62 w_im_D_some w_se_D_some (hdk.1) rfl hd_D_some rfl hl.1 (Nat.le_of_ble_eq_true rfl) d_D_floor_39 ⟨Nat.le_of_ble_eq_true rfl, Nat.le_of_ble_eq_true rfl⟩ ⟨show 0 + 1 ≤ 1 by omega, show 0 + 6 ≤ 6 by omega⟩ (fun _ h => h) (show 0 + 1 ≤ 1 by omega) (show 0 + 6 ≤ 6 by omega)
      · exact absurd (e1.2 c2) c3
    · refine lv_bipush (v := 90) hx hb d_D_floor_16 (by decide) ?_
      refine lv_goto (tgt := 24) hx hb d_D_floor_18 (by decide) ?_
      refine lv_icmp_le (tgt := 37) hx hb d_D_floor_24 (by decide) (fun c3 => ?_) (fun c3 => ?_)
      · refine lv_aload_n hx hb d_D_floor_37 rfl (lv_at hl 0 rfl) ?_
        refine lv_iload_n hx hb d_D_floor_38 rfl (lv_at hl 1 rfl) ?_
        exact pw_callVT X hne hS (As := [.int (nI j)]) (rest := []) (t_D_some l hfl K f a sz hdk j hj rd ct sh sr rc dg hhe hpy hdg) hz w_cd_D_some w_ini_D w_ml_D_62 w_im_D_some w_se_D_some (hdk.1) rfl hd_D_some rfl hl.1 (Nat.le_of_ble_eq_true rfl) d_D_floor_39 ⟨Nat.le_of_ble_eq_true rfl, Nat.le_of_ble_eq_true rfl⟩ ⟨show 0 + 1 ≤ 1 by omega, show 0 + 6 ≤ 6 by omega⟩ (fun _ h => h) (show 0 + 1 ≤ 1 by omega) (show 0 + 6 ≤ 6 by omega)
      · exact absurd (e1.1 c2) c3
set_option maxHeartbeats 4000000 in
set_option maxRecDepth 100000 in
theorem t_D_order_ISE (l : Launch) (hfl : nTr l) (K : pw_K) (f : pw_F) (a sz : Nat) (hdk : dkO K f a) (rd ct sh sr rc dg : Int32) (hhe : heO f (a + 2 + 177 * 0) rd ct sh sr rc) (hpy : pyO f (a + 2 + 177 * 0 + 2) dg) (p0 p1 : Int32) (hdg : dg < 0) : pw_T l K y_D_order b_D_order 5 (some .int) (rmk 9 1 6) f [.ref a, .int p0, .int p1] sz sISE (fun f2 => f2 = f) := by
  refine pw_startT (by decide) (Nat.le_of_ble_eq_true rfl) ?_
  intro p e s m args below meth c ls X hne hh hz hS hl
  have hl : lv_has ls 5 [(0, .ref a), (1, .int p0), (2, .int p1)] := hl
  have hx := X.1
  have hb := X.2.1
  refine lv_aload_n hx hb d_D_order_0 rfl (lv_at hl 0 rfl) ?_
  refine lv_iconst (v := 0) hx hb d_D_order_1 (by decide) ?_
  exact pw_callVT X hne hS (As := [.int 0]) (rest := []) (t_D_some l hfl K f a sz hdk 0 (by decide) rd ct sh sr rc dg hhe hpy hdg) hz w_cd_D_some w_ini_D w_ml_D_62 w_im_D_some w_se_D_some (hdk.1) rfl hd_D_some rfl hl.1 (Nat.le_of_ble_eq_true rfl) d_D_order_2 ⟨Nat.le_of_ble_eq_true rfl, Nat.le_of_ble_eq_true rfl⟩ ⟨show 0 + 1 ≤ 1 by omega, show 0 + 6 ≤ 6 by omega⟩ (fun _ h => h) (show 0 + 1 ≤ 1 by omega) (show 0 + 6 ≤ 6 by omega)
set_option maxHeartbeats 4000000 in
set_option maxRecDepth 100000 in
theorem t_D_common_ISE (l : Launch) (hfl : nTr l) (K : pw_K) (f : pw_F) (a sz : Nat) (hdk : dkO K f a) (rd ct sh sr rc dg : Int32) (hhe : heO f (a + 2 + 177 * 0) rd ct sh sr rc) (hpy : pyO f (a + 2 + 177 * 0 + 2) dg)  (hdg : dg < 0) : pw_T l K y_D_common b_D_common 3 (some .int) (rmk 9 1 6) f [.ref a] sz sISE (fun f2 => f2 = f) := by
  refine pw_startT (by decide) (Nat.le_of_ble_eq_true rfl) ?_
  intro p e s m args below meth c ls X hne hh hz hS hl
  have hl : lv_has ls 3 [(0, .ref a)] := hl
  have hx := X.1
  have hb := X.2.1
  refine lv_aload_n hx hb d_D_common_0 rfl (lv_at hl 0 rfl) ?_
  refine lv_iconst (v := 0) hx hb d_D_common_1 (by decide) ?_
  exact pw_callVT X hne hS (As := [.int 0]) (rest := []) (t_D_some l hfl K f a sz hdk 0 (by decide) rd ct sh sr rc dg hhe hpy hdg) hz w_cd_D_some w_ini_D w_ml_D_62 w_im_D_some w_se_D_some (hdk.1) rfl hd_D_some rfl hl.1 (Nat.le_of_ble_eq_true rfl) d_D_common_2 ⟨Nat.le_of_ble_eq_true rfl, Nat.le_of_ble_eq_true rfl⟩ ⟨show 0 + 1 ≤ 1 by omega, show 0 + 6 ≤ 6 by omega⟩ (fun _ h => h) (show 0 + 1 ≤ 1 by omega) (show 0 + 6 ≤ 6 by omega)
set_option maxHeartbeats 4000000 in
set_option maxRecDepth 100000 in
theorem t_D_out (l : Launch) (hfl : nTr l) (K : pw_K) (f : pw_F) (a sz : Nat) (hdk : dkO K f a) (n : Int32) (htx : txO f (a + 612) n) (p0 : Int32) (hc : p0 < 0 ∨ ¬ p0 < n) : pw_T l K y_D_out b_D_out 2 (some .long) (rmk 9 1 6) f [.ref a, .int p0] sz sNSE (fun f2 => f2 = f) := by
  refine pw_startT (by decide) (Nat.le_of_ble_eq_true rfl) ?_
  intro p e s m args below meth c ls X hne hh hz hS hl
  have hl : lv_has ls 2 [(0, .ref a), (1, .int p0)] := hl
  have hx := X.1
  have hb := X.2.1
  refine lv_iload_n hx hb d_D_out_0 rfl (lv_at hl 1 rfl) ?_
  refine lv_if_lt (tgt := 15) hx hb d_D_out_1 (by decide) (fun c1 => ?_) (fun c1 => ?_)
  · exact pw_throwN (R := rmk 9 1 6) (mc := 1) (ms := 6) (post := fun f2 => f2 = f) hfl X hne hS hl.1 (by decide +kernel) (by decide +kernel) (by decide +kernel) (by decide +kernel) w_cl_D_164 (at_use X hS at_inS.2.2) (at_use X hS at_inI.2.2) (st_D X.2.2.2.2.2.2.2.1).2.2.2.2.2.1 (at_all X hS at_NSE) (by decide +kernel) (by decide +kernel) (by decide +kernel) d_D_out_15 d_D_out_18 d_D_out_19 d_D_out_21 d_D_out_24 rfl (Nat.le_of_ble_eq_true rfl) (Nat.le_of_ble_eq_true rfl) (Nat.le_of_ble_eq_true rfl) (Nat.le_of_ble_eq_true rfl) (Nat.le_of_ble_eq_true rfl) (Nat.le_of_ble_eq_true rfl)
  · refine lv_iload_n hx hb d_D_out_4 rfl (lv_at hl 1 rfl) ?_
    refine lv_aload_n hx hb d_D_out_5 rfl (lv_at hl 0 rfl) ?_
    refine pw_get X hS (hdk.1) pc_D 3 (by decide) w_fl_D_33 rfl (v := .ref (a + 612)) rfl d_D_out_6 ?_
    refine pw_get X hS (htx) pc_Tx 3 (by decide) w_fl_D_161 rfl (v := .int n) rfl d_D_out_9 ?_
    refine lv_icmp_lt (tgt := 25) hx hb d_D_out_12 (by decide) (fun c2 => ?_) (fun c2 => ?_)
    · exact absurd hc (fun q => q.elim c1 (fun q2 => q2 c2))
    · exact pw_throwN (R := rmk 9 1 6) (mc := 1) (ms := 6) (post := fun f2 => f2 = f) hfl X hne hS hl.1 (by decide +kernel) (by decide +kernel) (by decide +kernel) (by decide +kernel) w_cl_D_164 (at_use X hS at_inS.2.2) (at_use X hS at_inI.2.2) (st_D X.2.2.2.2.2.2.2.1).2.2.2.2.2.1 (at_all X hS at_NSE) (by decide +kernel) (by decide +kernel) (by decide +kernel) d_D_out_15 d_D_out_18 d_D_out_19 d_D_out_21 d_D_out_24 rfl (Nat.le_of_ble_eq_true rfl) (Nat.le_of_ble_eq_true rfl) (Nat.le_of_ble_eq_true rfl) (Nat.le_of_ble_eq_true rfl) (Nat.le_of_ble_eq_true rfl) (Nat.le_of_ble_eq_true rfl)
set_option maxHeartbeats 4000000 in
set_option maxRecDepth 100000 in
theorem r_D_degree (l : Launch) (K : pw_K) (f : pw_F) (a sz : Nat) (hdk : dkO K f a) (j : Nat) (hj : j < 2) (rd ct sh sr rc dg : Int32) (hhe : heO f (a + 2 + 177 * j) rd ct sh sr rc) (hpy : pyO f (a + 2 + 177 * j + 2) dg) : pw_R l K y_D_degree b_D_degree 2 (some .int) (rmk 9 0 0) f [.ref a, .int (nI j)] sz (some (.int dg)) := by
  refine pw_startR (by decide) (Nat.le_of_ble_eq_true rfl) ?_
  intro p e s m args below meth c ls X hr hz hS hl
  have hl : lv_has ls 2 [(0, .ref a), (1, .int (nI j))] := hl
  have hx := X.1
  have hb := X.2.1
  obtain ⟨g, hg, hgk⟩ := hdk.2
  refine lv_aload_n hx hb d_D_degree_0 rfl (lv_at hl 0 rfl) ?_
  refine lv_iload_n hx hb d_D_degree_1 rfl (lv_at hl 1 rfl) ?_
  refine pw_callVR X hS (As := [.int (nI j)]) (rest := []) (r_D_checkPolynomial l K f a sz (nI j) (nI_pos (by omega)) (nI_lt (b := 2) (by omega) (by omega))) hz w_cd_D_checkPolynomial w_ini_D w_ml_D_37 w_im_D_checkPolynomial w_se_D_checkPolynomial (hdk.1) rfl hd_D_checkPolynomial rfl hl.1 (Nat.le_of_ble_eq_true rfl) d_D_degree_2 ⟨Nat.le_of_ble_eq_true rfl, Nat.le_of_ble_eq_true rfl⟩ ⟨show 0 ≤ 0 by omega, show 0 ≤ 0 by omega⟩ ?_
  refine lv_aload_n hx hb d_D_degree_5 rfl (lv_at hl 0 rfl) ?_
  refine pw_get X hS (hdk.1) pc_D 0 (by decide) w_fl_D_11 rfl (v := .ref (a + 1)) rfl d_D_degree_6 ?_
  refine lv_iload_n hx hb d_D_degree_9 rfl (lv_at hl 1 rfl) ?_
  refine pw_ald X hS 7 rfl (hg) (vp_in_nI (by omega) (by omega)) (b := a + 2 + 177 * j) (by rw [nI_clamp (by omega)]; exact hgk j hj) d_D_degree_10 ?_
  refine pw_get X hS (hhe) pc_He 1 (by decide) w_fl_D_52 rfl (v := .ref (a + 2 + 177 * j + 2)) rfl d_D_degree_11 ?_
  refine pw_get X hS (hpy) pc_Py 1 (by decide) w_fl_D_56 rfl (v := .int dg) rfl d_D_degree_14 ?_
  exact pw_iretR X hr d_D_degree_17
