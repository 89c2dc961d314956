theorem d_Tx_init_0 : decode b_Tx_init 0 = .ok (.aload_n 0, 1) := by decide +kernel
theorem d_Tx_init_1 : decode b_Tx_init 1 = .ok (.invokespecial 1, 3) := by decide +kernel
theorem d_Tx_init_4 : decode b_Tx_init 4 = .ok (.aload_n 0, 1) := by decide +kernel
theorem d_Tx_init_5 : decode b_Tx_init 5 = .ok (.sipush 128, 3) := by decide +kernel
theorem d_Tx_init_8 : decode b_Tx_init 8 = .ok (.newarray .byte, 2) := by decide +kernel
theorem d_Tx_init_10 : decode b_Tx_init 10 = .ok (.putfield 9, 3) := by decide +kernel
theorem d_Tx_init_13 : decode b_Tx_init 13 = .ok (.aload_n 0, 1) := by decide +kernel
theorem d_Tx_init_14 : decode b_Tx_init 14 = .ok (.sipush 128, 3) := by decide +kernel
theorem d_Tx_init_17 : decode b_Tx_init 17 = .ok (.newarray .byte, 2) := by decide +kernel
theorem d_Tx_init_19 : decode b_Tx_init 19 = .ok (.putfield 13, 3) := by decide +kernel
theorem d_Tx_init_22 : decode b_Tx_init 22 = .ok (.aload_n 0, 1) := by decide +kernel
theorem d_Tx_init_23 : decode b_Tx_init 23 = .ok (.new 16, 3) := by decide +kernel
theorem d_Tx_init_26 : decode b_Tx_init 26 = .ok (.dup, 1) := by decide +kernel
theorem d_Tx_init_27 : decode b_Tx_init 27 = .ok (.iconst 1, 1) := by decide +kernel
theorem d_Tx_init_28 : decode b_Tx_init 28 = .ok (.invokespecial 18, 3) := by decide +kernel
theorem d_Tx_init_31 : decode b_Tx_init 31 = .ok (.putfield 21, 3) := by decide +kernel
theorem d_Tx_init_34 : decode b_Tx_init 34 = .ok (.return_, 1) := by decide +kernel
set_option maxHeartbeats 4000000 in
set_option maxRecDepth 100000 in
theorem c_Tx_init (l : Launch) (K : pw_K) (f : pw_F) (a : Nat) (ha : f a = some (.inr (9, [.null, .null, .null, .int 0]))) : pw_C l K y_Tx_init b_Tx_init 1 none (rmk 3 4 500) f [.ref a] (a + 1) (fun v f' z => v = none ∧ z = a + 5 ∧ (∀ q, q < a → f' q = f q) ∧ zTx K f' a) := by
  refine pw_start (by decide) (Nat.le_of_ble_eq_true rfl) ?_
  intro p e s m args below meth c ls X hr hin hz hS hl
  have hl : lv_has ls 1 [(0, .ref a)] := hl
  have hx := X.1
  have hb := X.2.1
  generalize s.heap = H0 at hz hS ⊢
  generalize ([] : List Loc) = lc0 at hS ⊢
  refine lv_aload_n hx hb d_Tx_init_0 rfl (lv_at hl 0 rfl) ?_
  refine pw_obj X w_ml_Tx_1 hl.1 d_Tx_init_1 ⟨Nat.le_of_ble_eq_true rfl, Nat.le_of_ble_eq_true rfl⟩ rfl ?_
  refine lv_aload_n hx hb d_Tx_init_4 rfl (lv_at hl 0 rfl) ?_
  refine lv_sipush (v := 128) hx hb d_Tx_init_5 (by decide) ?_
  refine pw_newa X hS (ty := .byte) rfl w_ac_byte 3 rfl rfl (N' := 128) (a0 := (128, .inl (fun _ => 0))) (fun _ => rfl) (by decide) (by decide) (by decide) (show 0 + 1 ≤ 4 by omega) (show 0 + 128 ≤ 500 by omega) d_Tx_init_8 hz (fun H1 hz1 hS1 => ?_)
  clear hS hz
  refine W.cs (cells' := 1) (slots' := 128) rfl rfl ?_
  replace hS1 : pw_S K (pw_up f (a + 1) (.inl (pE K 3, 128, .inl (fun _ => 0)))) _ _ := hS1
  refine pw_putF X hS1 (v := .ref (a + 1)) ((pw_up_ne (by omega)).trans (ha)) pc_Tx 0 (by decide) w_fl_Tx_9 rfl rfl hin rfl rfl rfl (Nat.le_of_ble_eq_true rfl) d_Tx_init_10 (fun H2 lc2 hy2 hS2 => ?_)
  have hz2 := hy2.trans hz1; clear hy2 hS1 hz1
  replace hS2 : pw_S K (pw_up (pw_up f (a + 1) (.inl (pE K 3, 128, .inl (fun _ => 0)))) (a) (.inr (9, [.ref (a + 1), .null, .null, .int 0]))) _ _ := hS2
  refine lv_aload_n hx hb d_Tx_init_13 rfl (lv_at hl 0 rfl) ?_
  refine lv_sipush (v := 128) hx hb d_Tx_init_14 (by decide) ?_
  refine pw_newa X hS2 (ty := .byte) rfl w_ac_byte 3 rfl rfl (N' := 128) (a0 := (128, .inl (fun _ => 0))) (fun _ => rfl) (by decide) (by decide) (by decide) (show 1 + 1 ≤ 4 by omega) (show 128 + 128 ≤ 500 by omega) d_Tx_init_17 hz2 (fun H3 hz3 hS3 => ?_)
  clear hS2 hz2
  refine W.cs (cells' := 2) (slots' := 256) rfl rfl ?_
  replace hS3 : pw_S K (pw_up (pw_up (pw_up f (a + 1) (.inl (pE K 3, 128, .inl (fun _ => 0)))) (a) (.inr (9, [.ref (a + 1), .null, .null, .int 0]))) (a + 2) (.inl (pE K 3, 128, .inl (fun _ => 0)))) _ _ := hS3
  refine pw_putF X hS3 (v := .ref (a + 2)) ((pw_up_ne (by omega)).trans (pw_up_self _ _ _)) pc_Tx 1 (by decide) w_fl_Tx_13 rfl rfl hin rfl rfl rfl (Nat.le_of_ble_eq_true rfl) d_Tx_init_19 (fun H4 lc4 hy4 hS4 => ?_)
  have hz4 := hy4.trans hz3; clear hy4 hS3 hz3
  replace hS4 : pw_S K (pw_up (pw_up (pw_up (pw_up f (a + 1) (.inl (pE K 3, 128, .inl (fun _ => 0)))) (a) (.inr (9, [.ref (a + 1), .null, .null, .int 0]))) (a + 2) (.inl (pE K 3, 128, .inl (fun _ => 0)))) (a) (.inr (9, [.ref (a + 1), .ref (a + 2), .null, .int 0]))) _ _ := hS4
  refine lv_aload_n hx hb d_Tx_init_22 rfl (lv_at hl 0 rfl) ?_
  refine pw_new X hS4 pc_Nu w_cl_Tx_16 w_ins_Nu w_ini_Nu (fs := [.null, .int 0, .int 0]) (by decide) (show 2 + 1 ≤ 4 by omega) (show 256 + 3 ≤ 500 by omega) d_Tx_init_23 hz4 (fun H5 hz5 hS5 => ?_)
  clear hS4 hz4
  refine W.cs (cells' := 3) (slots' := 259) rfl rfl ?_
  replace hS5 : pw_S K (pw_up (pw_up (pw_up (pw_up (pw_up f (a + 1) (.inl (pE K 3, 128, .inl (fun _ => 0)))) (a) (.inr (9, [.ref (a + 1), .null, .null, .int 0]))) (a + 2) (.inl (pE K 3, 128, .inl (fun _ => 0)))) (a) (.inr (9, [.ref (a + 1), .ref (a + 2), .null, .int 0]))) (a + 3) (.inr (0, [.null, .int 0, .int 0]))) _ _ := hS5
  refine lv_dup hx hb d_Tx_init_26 rfl ?_
  refine lv_iconst (v := 1) hx hb d_Tx_init_27 (by decide) ?_
  refine pw_callI X hS5 (As := [.int 1]) (rest := [.ref (a + 3), .ref a]) (c_Nu_init l K (pw_up (pw_up (pw_up (pw_up (pw_up f (a + 1) (.inl (pE K 3, 128, .inl (fun _ => 0)))) (a) (.inr (9, [.ref (a + 1), .null, .null, .int 0]))) (a + 2) (.inl (pE K 3, 128, .inl (fun _ => 0)))) (a) (.inr (9, [.ref (a + 1), .ref (a + 2), .null, .int 0]))) (a + 3) (.inr (0, [.null, .int 0, .int 0]))) (a + 3) 1 160 (by decide) (pw_up_self _ _ _)) hz5 w_cd_Nu_init w_ini_Nu w_ml_Tx_18 w_im_Nu_init rfl hd_Nu_init rfl hl.1 (Nat.le_of_ble_eq_true rfl) d_Tx_init_28 ⟨Nat.le_of_ble_eq_true rfl, Nat.le_of_ble_eq_true rfl⟩ ⟨show 3 + 1 ≤ 4 by omega, show 259 + 160 ≤ 500 by omega⟩ (fun v f1 H6 lc6 hp hS6 => ?_)
  refine W.cs (cells' := 4) (slots' := 419) rfl rfl ?_
  clear hS5 hz5
  obtain ⟨rfl, hz6, hk1, hN1⟩ := hp
  have hA1_0 : f1 (a) = some (.inr (9, [.ref (a + 1), .ref (a + 2), .null, .int 0])) := (hk1 _ (by omega)).trans ((pw_up_ne (by omega)).trans (pw_up_self _ _ _))
  have hA1_1 : f1 (a + 1) = some (.inl (pE K 3, 128, .inl (fun _ => 0))) := (hk1 _ (by omega)).trans ((pw_up_ne (by omega)).trans ((pw_up_ne (by omega)).trans ((pw_up_ne (by omega)).trans ((pw_up_ne (by omega)).trans (pw_up_self _ _ _)))))
  have hA1_2 : f1 (a + 2) = some (.inl (pE K 3, 128, .inl (fun _ => 0))) := (hk1 _ (by omega)).trans ((pw_up_ne (by omega)).trans ((pw_up_ne (by omega)).trans (pw_up_self _ _ _)))
  have hfr1 : ∀ q, q < a → f1 q = f q := fun q hq => (hk1 q (by omega)).trans (pw_n5 (by omega) (by omega) (by omega) (by omega) (by omega))
  replace hz6 : _ = a + 5 := hz6
  clear hk1
  refine pw_putF X hS6 (v := .ref (a + 3)) (hA1_0) pc_Tx 2 (by decide) w_fl_Tx_21 rfl rfl hin rfl rfl rfl (Nat.le_of_ble_eq_true rfl) d_Tx_init_31 (fun H7 lc7 hy7 hS7 => ?_)
  have hz7 := hy7.trans hz6; clear hy7 hS6 hz6
  replace hS7 : pw_S K (pw_up f1 (a) (.inr (9, [.ref (a + 1), .ref (a + 2), .ref (a + 3), .int 0]))) _ _ := hS7
  replace hN1 := hN1.mv (f' := pw_up f1 (a) (.inr (9, [.ref (a + 1), .ref (a + 2), .ref (a + 3), .int 0]))) (fun q h1 h2 => (pw_n1 (by omega)))
  exact pw_vret X hS7 hr ⟨rfl, hz7, fun q hq => ((pw_n1 (by omega)).trans (hfr1 q hq)), (pw_up_self _ _ _), ((pw_up_ne (by omega)).trans (hA1_1)), ((pw_up_ne (by omega)).trans (hA1_2)), hN1⟩ (show 4 ≤ 4 by omega) (show 419 ≤ 500 by omega) d_Tx_init_34
theorem d_Qu_init_0 : decode b_Qu_init 0 = .ok (.aload_n 0, 1) := by decide +kernel
theorem d_Qu_init_1 : decode b_Qu_init 1 = .ok (.invokespecial 3, 3) := by decide +kernel
theorem d_Qu_init_4 : decode b_Qu_init 4 = .ok (.aload_n 0, 1) := by decide +kernel
theorem d_Qu_init_5 : decode b_Qu_init 5 = .ok (.new 9, 3) := by decide +kernel
theorem d_Qu_init_8 : decode b_Qu_init 8 = .ok (.dup, 1) := by decide +kernel
theorem d_Qu_init_9 : decode b_Qu_init 9 = .ok (.bipush 16, 2) := by decide +kernel
theorem d_Qu_init_11 : decode b_Qu_init 11 = .ok (.invokespecial 11, 3) := by decide +kernel
theorem d_Qu_init_14 : decode b_Qu_init 14 = .ok (.putfield 14, 3) := by decide +kernel
theorem d_Qu_init_17 : decode b_Qu_init 17 = .ok (.aload_n 0, 1) := by decide +kernel
theorem d_Qu_init_18 : decode b_Qu_init 18 = .ok (.new 20, 3) := by decide +kernel
theorem d_Qu_init_21 : decode b_Qu_init 21 = .ok (.dup, 1) := by decide +kernel
theorem d_Qu_init_22 : decode b_Qu_init 22 = .ok (.bipush 9, 2) := by decide +kernel
theorem d_Qu_init_24 : decode b_Qu_init 24 = .ok (.iconst 0, 1) := by decide +kernel
theorem d_Qu_init_25 : decode b_Qu_init 25 = .ok (.invokespecial 22, 3) := by decide +kernel
theorem d_Qu_init_28 : decode b_Qu_init 28 = .ok (.putfield 25, 3) := by decide +kernel
theorem d_Qu_init_31 : decode b_Qu_init 31 = .ok (.return_, 1) := by decide +kernel
set_option maxHeartbeats 4000000 in
set_option maxRecDepth 100000 in
theorem c_Qu_init (l : Launch) (K : pw_K) (f : pw_F) (a : Nat) (ha : f a = some (.inr (8, [.null, .null]))) : pw_C l K y_Qu_init b_Qu_init 1 none (rmk 5 164 28600) f [.ref a] (a + 1) (fun v f' z => v = none ∧ z = a + 165 ∧ (∀ q, q < a → f' q = f q) ∧ zQu K f' a) := by
  refine pw_start (by decide) (Nat.le_of_ble_eq_true rfl) ?_
  intro p e s m args below meth c ls X hr hin hz hS hl
  have hl : lv_has ls 1 [(0, .ref a)] := hl
  have hx := X.1
  have hb := X.2.1
  generalize s.heap = H0 at hz hS ⊢
  generalize ([] : List Loc) = lc0 at hS ⊢
  refine lv_aload_n hx hb d_Qu_init_0 rfl (lv_at hl 0 rfl) ?_
  refine pw_obj X w_ml_Qu_3 hl.1 d_Qu_init_1 ⟨Nat.le_of_ble_eq_true rfl, Nat.le_of_ble_eq_true rfl⟩ rfl ?_
  refine lv_aload_n hx hb d_Qu_init_4 rfl (lv_at hl 0 rfl) ?_
  refine pw_new X hS pc_Ch w_cl_Qu_9 w_ins_Ch w_ini_Ch (fs := [.null, .int 0, .int 0]) (by decide) (show 0 + 1 ≤ 164 by omega) (show 0 + 3 ≤ 28600 by omega) d_Qu_init_5 hz (fun H1 hz1 hS1 => ?_)
  clear hS hz
  refine W.cs (cells' := 1) (slots' := 3) rfl rfl ?_
  replace hS1 : pw_S K (pw_up f (a + 1) (.inr (5, [.null, .int 0, .int 0]))) _ _ := hS1
  refine lv_dup hx hb d_Qu_init_8 rfl ?_
  refine lv_bipush (v := 16) hx hb d_Qu_init_9 (by decide) ?_
  refine pw_callI X hS1 (As := [.int 16]) (rest := [.ref (a + 1), .ref a]) (c_Ch_init l K (pw_up f (a + 1) (.inr (5, [.null, .int 0, .int 0]))) (a + 1) 16 (by omega) (pw_up_self _ _ _)) hz1 w_cd_Ch_init w_ini_Ch w_ml_Qu_11 w_im_Ch_init rfl hd_Ch_init rfl hl.1 (Nat.le_of_ble_eq_true rfl) d_Qu_init_11 ⟨Nat.le_of_ble_eq_true rfl, Nat.le_of_ble_eq_true rfl⟩ ⟨show 1 + 143 ≤ 164 by omega, show 3 + 27010 ≤ 28600 by omega⟩ (fun v f1 H2 lc2 hp hS2 => ?_)
  refine W.cs (cells' := 144) (slots' := 27013) rfl rfl ?_
  clear hS1 hz1
  obtain ⟨rfl, hz2, hk1, hN1⟩ := hp
  have hA1_0 : f1 (a) = some (.inr (8, [.null, .null])) := (hk1 _ (by omega)).trans ((pw_up_ne (by omega)).trans (ha))
  have hfr1 : ∀ q, q < a → f1 q = f q := fun q hq => (hk1 q (by omega)).trans (pw_n1 (by omega))
  replace hz2 : _ = a + 145 := hz2
  clear hk1
  refine pw_putF X hS2 (v := .ref (a + 1)) (hA1_0) pc_Qu 0 (by decide) w_fl_Qu_14 rfl rfl hin rfl rfl rfl (Nat.le_of_ble_eq_true rfl) d_Qu_init_14 (fun H3 lc3 hy3 hS3 => ?_)
  have hz3 := hy3.trans hz2; clear hy3 hS2 hz2
  replace hS3 : pw_S K (pw_up f1 (a) (.inr (8, [.ref (a + 1), .null]))) _ _ := hS3
  refine lv_aload_n hx hb d_Qu_init_17 rfl (lv_at hl 0 rfl) ?_
  refine pw_new X hS3 pc_Py w_cl_Qu_20 w_ins_Py w_ini_Py (fs := [.null, .int 0]) (by decide) (show 144 + 1 ≤ 164 by omega) (show 27013 + 2 ≤ 28600 by omega) d_Qu_init_18 hz3 (fun H4 hz4 hS4 => ?_)
  clear hS3 hz3
  refine W.cs (cells' := 145) (slots' := 27015) rfl rfl ?_
  replace hS4 : pw_S K (pw_up (pw_up f1 (a) (.inr (8, [.ref (a + 1), .null]))) (a + 145) (.inr (2, [.null, .int 0]))) _ _ := hS4
  refine lv_dup hx hb d_Qu_init_21 rfl ?_
  refine lv_bipush (v := 9) hx hb d_Qu_init_22 (by decide) ?_
  refine lv_iconst (v := 0) hx hb d_Qu_init_24 (by decide) ?_
  refine pw_callI X hS4 (As := [.int 9, .int 0]) (rest := [.ref (a + 145), .ref a]) (c_Py_init l K (pw_up (pw_up f1 (a) (.inr (8, [.ref (a + 1), .null]))) (a + 145) (.inr (2, [.null, .int 0]))) (a + 145) 9 48 0 (by omega) (by decide) (pw_up_self _ _ _)) hz4 w_cd_Py_init w_ini_Py w_ml_Qu_22 w_im_Py_init rfl hd_Py_init rfl hl.1 (Nat.le_of_ble_eq_true rfl) d_Qu_init_25 ⟨Nat.le_of_ble_eq_true rfl, Nat.le_of_ble_eq_true rfl⟩ ⟨show 145 + 19 ≤ 164 by omega, show 27015 + 1476 ≤ 28600 by omega⟩ (fun v f2 H5 lc5 hp hS5 => ?_)
  refine W.cs (cells' := 164) (slots' := 28491) rfl rfl ?_
  clear hS4 hz4
  obtain ⟨rfl, hz5, hk2, hN2⟩ := hp
  have hA2_0 : f2 (a) = some (.inr (8, [.ref (a + 1), .null])) := (hk2 _ (by omega)).trans ((pw_up_ne (by omega)).trans (pw_up_self _ _ _))
  have hN1 := hN1.mv (f' := f2) (fun q h1 h2 => (hk2 q (by omega)).trans (pw_n2 (by omega) (by omega)))
  have hfr2 : ∀ q, q < a → f2 q = f q := fun q hq => (hk2 q (by omega)).trans ((pw_n2 (by omega) (by omega)).trans (hfr1 q hq))
  replace hz5 : _ = a + 165 := hz5
  clear hk2 hfr1 hA1_0
  refine pw_putF X hS5 (v := .ref (a + 145)) (hA2_0) pc_Qu 1 (by decide) w_fl_Qu_25 rfl rfl hin rfl rfl rfl (Nat.le_of_ble_eq_true rfl) d_Qu_init_28 (fun H6 lc6 hy6 hS6 => ?_)
  have hz6 := hy6.trans hz5; clear hy6 hS5 hz5
  replace hS6 : pw_S K (pw_up f2 (a) (.inr (8, [.ref (a + 1), .ref (a + 145)]))) _ _ := hS6
  replace hN1 := hN1.mv (f' := pw_up f2 (a) (.inr (8, [.ref (a + 1), .ref (a + 145)]))) (fun q h1 h2 => (pw_n1 (by omega)))
  replace hN2 := hN2.mv (f' := pw_up f2 (a) (.inr (8, [.ref (a + 1), .ref (a + 145)]))) (fun q h1 h2 => (pw_n1 (by omega)))
  exact pw_vret X hS6 hr ⟨rfl, hz6, fun q hq => ((pw_n1 (by omega)).trans (hfr2 q hq)), (pw_up_self _ _ _), hN1, hN2⟩ (show 164 ≤ 164 by omega) (show 28491 ≤ 28600 by omega) d_Qu_init_31
theorem d_Be_init_0 : decode b_Be_init 0 = .ok (.aload_n 0, 1) := by decide +kernel
theorem d_Be_init_1 : decode b_Be_init 1 = .ok (.invokespecial 3, 3) := by decide +kernel
theorem d_Be_init_4 : decode b_Be_init 4 = .ok (.aload_n 0, 1) := by decide +kernel
theorem d_Be_init_5 : decode b_Be_init 5 = .ok (.new 9, 3) := by decide +kernel
theorem d_Be_init_8 : decode b_Be_init 8 = .ok (.dup, 1) := by decide +kernel
theorem d_Be_init_9 : decode b_Be_init 9 = .ok (.iconst 1, 1) := by decide +kernel
theorem d_Be_init_10 : decode b_Be_init 10 = .ok (.invokespecial 11, 3) := by decide +kernel
theorem d_Be_init_13 : decode b_Be_init 13 = .ok (.putfield 14, 3) := by decide +kernel
theorem d_Be_init_16 : decode b_Be_init 16 = .ok (.aload_n 0, 1) := by decide +kernel
theorem d_Be_init_17 : decode b_Be_init 17 = .ok (.new 9, 3) := by decide +kernel
theorem d_Be_init_20 : decode b_Be_init 20 = .ok (.dup, 1) := by decide +kernel
theorem d_Be_init_21 : decode b_Be_init 21 = .ok (.iconst 1, 1) := by decide +kernel
theorem d_Be_init_22 : decode b_Be_init 22 = .ok (.invokespecial 11, 3) := by decide +kernel
theorem d_Be_init_25 : decode b_Be_init 25 = .ok (.putfield 20, 3) := by decide +kernel
theorem d_Be_init_28 : decode b_Be_init 28 = .ok (.aload_n 0, 1) := by decide +kernel
theorem d_Be_init_29 : decode b_Be_init 29 = .ok (.new 9, 3) := by decide +kernel
theorem d_Be_init_32 : decode b_Be_init 32 = .ok (.dup, 1) := by decide +kernel
theorem d_Be_init_33 : decode b_Be_init 33 = .ok (.iconst 1, 1) := by decide +kernel
theorem d_Be_init_34 : decode b_Be_init 34 = .ok (.invokespecial 11, 3) := by decide +kernel
theorem d_Be_init_37 : decode b_Be_init 37 = .ok (.putfield 23, 3) := by decide +kernel
theorem d_Be_init_40 : decode b_Be_init 40 = .ok (.aload_n 0, 1) := by decide +kernel
theorem d_Be_init_41 : decode b_Be_init 41 = .ok (.new 9, 3) := by decide +kernel
theorem d_Be_init_44 : decode b_Be_init 44 = .ok (.dup, 1) := by decide +kernel
theorem d_Be_init_45 : decode b_Be_init 45 = .ok (.iconst 1, 1) := by decide +kernel
theorem d_Be_init_46 : decode b_Be_init 46 = .ok (.invokespecial 11, 3) := by decide +kernel
theorem d_Be_init_49 : decode b_Be_init 49 = .ok (.putfield 26, 3) := by decide +kernel
theorem d_Be_init_52 : decode b_Be_init 52 = .ok (.aload_n 0, 1) := by decide +kernel
theorem d_Be_init_53 : decode b_Be_init 53 = .ok (.new 9, 3) := by decide +kernel
theorem d_Be_init_56 : decode b_Be_init 56 = .ok (.dup, 1) := by decide +kernel
theorem d_Be_init_57 : decode b_Be_init 57 = .ok (.iconst 1, 1) := by decide +kernel
theorem d_Be_init_58 : decode b_Be_init 58 = .ok (.invokespecial 11, 3) := by decide +kernel
theorem d_Be_init_61 : decode b_Be_init 61 = .ok (.putfield 29, 3) := by decide +kernel
theorem d_Be_init_64 : decode b_Be_init 64 = .ok (.aload_n 0, 1) := by decide +kernel
theorem d_Be_init_65 : decode b_Be_init 65 = .ok (.new 9, 3) := by decide +kernel
theorem d_Be_init_68 : decode b_Be_init 68 = .ok (.dup, 1) := by decide +kernel
theorem d_Be_init_69 : decode b_Be_init 69 = .ok (.iconst 1, 1) := by decide +kernel
theorem d_Be_init_70 : decode b_Be_init 70 = .ok (.invokespecial 11, 3) := by decide +kernel
theorem d_Be_init_73 : decode b_Be_init 73 = .ok (.putfield 32, 3) := by decide +kernel
theorem d_Be_init_76 : decode b_Be_init 76 = .ok (.aload_n 0, 1) := by decide +kernel
theorem d_Be_init_77 : decode b_Be_init 77 = .ok (.new 9, 3) := by decide +kernel
theorem d_Be_init_80 : decode b_Be_init 80 = .ok (.dup, 1) := by decide +kernel
theorem d_Be_init_81 : decode b_Be_init 81 = .ok (.iconst 1, 1) := by decide +kernel
theorem d_Be_init_82 : decode b_Be_init 82 = .ok (.invokespecial 11, 3) := by decide +kernel
theorem d_Be_init_85 : decode b_Be_init 85 = .ok (.putfield 35, 3) := by decide +kernel
theorem d_Be_init_88 : decode b_Be_init 88 = .ok (.aload_n 0, 1) := by decide +kernel
theorem d_Be_init_89 : decode b_Be_init 89 = .ok (.new 9, 3) := by decide +kernel
theorem d_Be_init_92 : decode b_Be_init 92 = .ok (.dup, 1) := by decide +kernel
theorem d_Be_init_93 : decode b_Be_init 93 = .ok (.iconst 1, 1) := by decide +kernel
theorem d_Be_init_94 : decode b_Be_init 94 = .ok (.invokespecial 11, 3) := by decide +kernel
theorem d_Be_init_97 : decode b_Be_init 97 = .ok (.putfield 38, 3) := by decide +kernel
theorem d_Be_init_100 : decode b_Be_init 100 = .ok (.aload_n 0, 1) := by decide +kernel
theorem d_Be_init_101 : decode b_Be_init 101 = .ok (.new 9, 3) := by decide +kernel
theorem d_Be_init_104 : decode b_Be_init 104 = .ok (.dup, 1) := by decide +kernel
theorem d_Be_init_105 : decode b_Be_init 105 = .ok (.iconst 1, 1) := by decide +kernel
theorem d_Be_init_106 : decode b_Be_init 106 = .ok (.invokespecial 11, 3) := by decide +kernel
theorem d_Be_init_109 : decode b_Be_init 109 = .ok (.putfield 41, 3) := by decide +kernel
theorem d_Be_init_112 : decode b_Be_init 112 = .ok (.aload_n 0, 1) := by decide +kernel
theorem d_Be_init_113 : decode b_Be_init 113 = .ok (.new 9, 3) := by decide +kernel
theorem d_Be_init_116 : decode b_Be_init 116 = .ok (.dup, 1) := by decide +kernel
theorem d_Be_init_117 : decode b_Be_init 117 = .ok (.iconst 1, 1) := by decide +kernel
theorem d_Be_init_118 : decode b_Be_init 118 = .ok (.invokespecial 11, 3) := by decide +kernel
theorem d_Be_init_121 : decode b_Be_init 121 = .ok (.putfield 44, 3) := by decide +kernel
theorem d_Be_init_124 : decode b_Be_init 124 = .ok (.aload_n 0, 1) := by decide +kernel
theorem d_Be_init_125 : decode b_Be_init 125 = .ok (.new 9, 3) := by decide +kernel
theorem d_Be_init_128 : decode b_Be_init 128 = .ok (.dup, 1) := by decide +kernel
theorem d_Be_init_129 : decode b_Be_init 129 = .ok (.iconst 1, 1) := by decide +kernel
theorem d_Be_init_130 : decode b_Be_init 130 = .ok (.invokespecial 11, 3) := by decide +kernel
theorem d_Be_init_133 : decode b_Be_init 133 = .ok (.putfield 47, 3) := by decide +kernel
theorem d_Be_init_136 : decode b_Be_init 136 = .ok (.aload_n 0, 1) := by decide +kernel
theorem d_Be_init_137 : decode b_Be_init 137 = .ok (.new 9, 3) := by decide +kernel
theorem d_Be_init_140 : decode b_Be_init 140 = .ok (.dup, 1) := by decide +kernel
theorem d_Be_init_141 : decode b_Be_init 141 = .ok (.iconst 1, 1) := by decide +kernel
theorem d_Be_init_142 : decode b_Be_init 142 = .ok (.invokespecial 11, 3) := by decide +kernel
theorem d_Be_init_145 : decode b_Be_init 145 = .ok (.putfield 50, 3) := by decide +kernel
theorem d_Be_init_148 : decode b_Be_init 148 = .ok (.aload_n 0, 1) := by decide +kernel
theorem d_Be_init_149 : decode b_Be_init 149 = .ok (.new 53, 3) := by decide +kernel
theorem d_Be_init_152 : decode b_Be_init 152 = .ok (.dup, 1) := by decide +kernel
theorem d_Be_init_153 : decode b_Be_init 153 = .ok (.invokespecial 55, 3) := by decide +kernel
theorem d_Be_init_156 : decode b_Be_init 156 = .ok (.putfield 56, 3) := by decide +kernel
theorem d_Be_init_159 : decode b_Be_init 159 = .ok (.aload_n 0, 1) := by decide +kernel
theorem d_Be_init_160 : decode b_Be_init 160 = .ok (.new 60, 3) := by decide +kernel
theorem d_Be_init_163 : decode b_Be_init 163 = .ok (.dup, 1) := by decide +kernel
theorem d_Be_init_164 : decode b_Be_init 164 = .ok (.invokespecial 62, 3) := by decide +kernel
theorem d_Be_init_167 : decode b_Be_init 167 = .ok (.putfield 63, 3) := by decide +kernel
theorem d_Be_init_170 : decode b_Be_init 170 = .ok (.aload_n 0, 1) := by decide +kernel
theorem d_Be_init_171 : decode b_Be_init 171 = .ok (.new 67, 3) := by decide +kernel
theorem d_Be_init_174 : decode b_Be_init 174 = .ok (.dup, 1) := by decide +kernel
theorem d_Be_init_175 : decode b_Be_init 175 = .ok (.bipush 16, 2) := by decide +kernel
theorem d_Be_init_177 : decode b_Be_init 177 = .ok (.iconst 1, 1) := by decide +kernel
theorem d_Be_init_178 : decode b_Be_init 178 = .ok (.invokespecial 71, 3) := by decide +kernel
theorem d_Be_init_181 : decode b_Be_init 181 = .ok (.putfield 74, 3) := by decide +kernel
theorem d_Be_init_184 : decode b_Be_init 184 = .ok (.aload_n 0, 1) := by decide +kernel
theorem d_Be_init_185 : decode b_Be_init 185 = .ok (.new 67, 3) := by decide +kernel
theorem d_Be_init_188 : decode b_Be_init 188 = .ok (.dup, 1) := by decide +kernel
theorem d_Be_init_189 : decode b_Be_init 189 = .ok (.bipush 9, 2) := by decide +kernel
theorem d_Be_init_191 : decode b_Be_init 191 = .ok (.iconst 0, 1) := by decide +kernel
theorem d_Be_init_192 : decode b_Be_init 192 = .ok (.invokespecial 71, 3) := by decide +kernel
theorem d_Be_init_195 : decode b_Be_init 195 = .ok (.putfield 78, 3) := by decide +kernel
theorem d_Be_init_198 : decode b_Be_init 198 = .ok (.return_, 1) := by decide +kernel
set_option maxHeartbeats 4000000 in
set_option maxRecDepth 100000 in
theorem c_Be_init (l : Launch) (K : pw_K) (f : pw_F) (a : Nat) (ha : f a = some (.inr (4, [.null, .null, .null, .null, .null, .null, .null, .null, .null, .null, .null, .null, .null, .null, .null, .null]))) : pw_C l K y_Be_init b_Be_init 1 none (rmk 4 90 7000) f [.ref a] (a + 1) (fun v f' z => v = none ∧ z = a + 91 ∧ (∀ q, q < a → f' q = f q) ∧ zBe K f' a) := by
  refine pw_start (by decide) (Nat.le_of_ble_eq_true rfl) ?_
  intro p e s m args below meth c ls X hr hin hz hS hl
  have hl : lv_has ls 1 [(0, .ref a)] := hl
  have hx := X.1
  have hb := X.2.1
  generalize s.heap = H0 at hz hS ⊢
  generalize ([] : List Loc) = lc0 at hS ⊢
  refine lv_aload_n hx hb d_Be_init_0 rfl (lv_at hl 0 rfl) ?_
  refine pw_obj X w_ml_Be_3 hl.1 d_Be_init_1 ⟨Nat.le_of_ble_eq_true rfl, Nat.le_of_ble_eq_true rfl⟩ rfl ?_
  refine lv_aload_n hx hb d_Be_init_4 rfl (lv_at hl 0 rfl) ?_
  refine pw_new X hS pc_Nu w_cl_Be_9 w_ins_Nu w_ini_Nu (fs := [.null, .int 0, .int 0]) (by decide) (show 0 + 1 ≤ 90 by omega) (show 0 + 3 ≤ 7000 by omega) d_Be_init_5 hz (fun H1 hz1 hS1 => ?_)
  clear hS hz
  refine W.cs (cells' := 1) (slots' := 3) rfl rfl ?_
  replace hS1 : pw_S K (pw_up f (a + 1) (.inr (0, [.null, .int 0, .int 0]))) _ _ := hS1
  refine lv_dup hx hb d_Be_init_8 rfl ?_
  refine lv_iconst (v := 1) hx hb d_Be_init_9 (by decide) ?_
  refine pw_callI X hS1 (As := [.int 1]) (rest := [.ref (a + 1), .ref a]) (c_Nu_init l K (pw_up f (a + 1) (.inr (0, [.null, .int 0, .int 0]))) (a + 1) 1 160 (by decide) (pw_up_self _ _ _)) hz1 w_cd_Nu_init w_ini_Nu w_ml_Be_11 w_im_Nu_init rfl hd_Nu_init rfl hl.1 (Nat.le_of_ble_eq_true rfl) d_Be_init_10 ⟨Nat.le_of_ble_eq_true rfl, Nat.le_of_ble_eq_true rfl⟩ ⟨show 1 + 1 ≤ 90 by omega, show 3 + 160 ≤ 7000 by omega⟩ (fun v f1 H2 lc2 hp hS2 => ?_)
  refine W.cs (cells' := 2) (slots' := 163) rfl rfl ?_
  clear hS1 hz1
  obtain ⟨rfl, hz2, hk1, hN1⟩ := hp
  have hA1_0 : f1 (a) = some (.inr (4, [.null, .null, .null, .null, .null, .null, .null, .null, .null, .null, .null, .null, .null, .null, .null, .null])) := (hk1 _ (by omega)).trans ((pw_up_ne (by omega)).trans (ha))
  have hfr1 : ∀ q, q < a → f1 q = f q := fun q hq => (hk1 q (by omega)).trans (pw_n1 (by omega))
  replace hz2 : _ = a + 3 := hz2
  clear hk1
  refine pw_putF X hS2 (v := .ref (a + 1)) (hA1_0) pc_Be 0 (by decide) w_fl_Be_14 rfl rfl hin rfl rfl rfl (Nat.le_of_ble_eq_true rfl) d_Be_init_13 (fun H3 lc3 hy3 hS3 => ?_)
  have hz3 := hy3.trans hz2; clear hy3 hS2 hz2
  replace hS3 : pw_S K (pw_up f1 (a) (.inr (4, [.ref (a + 1), .null, .null, .null, .null, .null, .null, .null, .null, .null, .null, .null, .null, .null, .null, .null]))) _ _ := hS3
  refine lv_aload_n hx hb d_Be_init_16 rfl (lv_at hl 0 rfl) ?_
  refine pw_new X hS3 pc_Nu w_cl_Be_9 w_ins_Nu w_ini_Nu (fs := [.null, .int 0, .int 0]) (by decide) (show 2 + 1 ≤ 90 by omega) (show 163 + 3 ≤ 7000 by omega) d_Be_init_17 hz3 (fun H4 hz4 hS4 => ?_)
  clear hS3 hz3
  refine W.cs (cells' := 3) (slots' := 166) rfl rfl ?_
  replace hS4 : pw_S K (pw_up (pw_up f1 (a) (.inr (4, [.ref (a + 1), .null, .null, .null, .null, .null, .null, .null, .null, .null, .null, .null, .null, .null, .null, .null]))) (a + 3) (.inr (0, [.null, .int 0, .int 0]))) _ _ := hS4
  refine lv_dup hx hb d_Be_init_20 rfl ?_
  refine lv_iconst (v := 1) hx hb d_Be_init_21 (by decide) ?_
  refine pw_callI X hS4 (As := [.int 1]) (rest := [.ref (a + 3), .ref a]) (c_Nu_init l K (pw_up (pw_up f1 (a) (.inr (4, [.ref (a + 1), .null, .null, .null, .null, .null, .null, .null, .null, .null, .null, .null, .null, .null, .null, .null]))) (a + 3) (.inr (0, [.null, .int 0, .int 0]))) (a + 3) 1 160 (by decide) (pw_up_self _ _ _)) hz4 w_cd_Nu_init w_ini_Nu w_ml_Be_11 w_im_Nu_init rfl hd_Nu_init rfl hl.1 (Nat.le_of_ble_eq_true rfl) d_Be_init_22 ⟨Nat.le_of_ble_eq_true rfl, Nat.le_of_ble_eq_true rfl⟩ ⟨show 3 + 1 ≤ 90 by omega, show 166 + 160 ≤ 7000 by omega⟩ (fun v f2 H5 lc5 hp hS5 => ?_)
  refine W.cs (cells' := 4) (slots' := 326) rfl rfl ?_
  clear hS4 hz4
  obtain ⟨rfl, hz5, hk2, hN2⟩ := hp
  have hA2_0 : f2 (a) = some (.inr (4, [.ref (a + 1), .null, .null, .null, .null, .null, .null, .null, .null, .null, .null, .null, .null, .null, .null, .null])) := (hk2 _ (by omega)).trans ((pw_up_ne (by omega)).trans (pw_up_self _ _ _))
  have hN1 := hN1.mv (f' := f2) (fun q h1 h2 => (hk2 q (by omega)).trans (pw_n2 (by omega) (by omega)))
  have hfr2 : ∀ q, q < a → f2 q = f q := fun q hq => (hk2 q (by omega)).trans ((pw_n2 (by omega) (by omega)).trans (hfr1 q hq))
  replace hz5 : _ = a + 5 := hz5
  clear hk2 hfr1 hA1_0
  refine pw_putF X hS5 (v := .ref (a + 3)) (hA2_0) pc_Be 1 (by decide) w_fl_Be_20 rfl rfl hin rfl rfl rfl (Nat.le_of_ble_eq_true rfl) d_Be_init_25 (fun H6 lc6 hy6 hS6 => ?_)
  have hz6 := hy6.trans hz5; clear hy6 hS5 hz5
  replace hS6 : pw_S K (pw_up f2 (a) (.inr (4, [.ref (a + 1), .ref (a + 3), .null, .null, .null, .null, .null, .null, .null, .null, .null, .null, .null, .null, .null, .null]))) _ _ := hS6
  refine lv_aload_n hx hb d_Be_init_28 rfl (lv_at hl 0 rfl) ?_
  refine pw_new X hS6 pc_Nu w_cl_Be_9 w_ins_Nu w_ini_Nu (fs := [.null, .int 0, .int 0]) (by decide) (show 4 + 1 ≤ 90 by omega) (show 326 + 3 ≤ 7000 by omega) d_Be_init_29 hz6 (fun H7 hz7 hS7 => ?_)
  clear hS6 hz6
  refine W.cs (cells' := 5) (slots' := 329) rfl rfl ?_
  replace hS7 : pw_S K (pw_up (pw_up f2 (a) (.inr (4, [.ref (a + 1), .ref (a + 3), .null, .null, .null, .null, .null, .null, .null, .null, .null, .null, .null, .null, .null, .null]))) (a + 5) (.inr (0, [.null, .int 0, .int 0]))) _ _ := hS7
  refine lv_dup hx hb d_Be_init_32 rfl ?_
  refine lv_iconst (v := 1) hx hb d_Be_init_33 (by decide) ?_
  refine pw_callI X hS7 (As := [.int 1]) (rest := [.ref (a + 5), .ref a]) (c_Nu_init l K (pw_up (pw_up f2 (a) (.inr (4, [.ref (a + 1), .ref (a + 3), .null, .null, .null, .null, .null, .null, .null, .null, .null, .null, .null, .null, .null, .null]))) (a + 5) (.inr (0, [.null, .int 0, .int 0]))) (a + 5) 1 160 (by decide) (pw_up_self _ _ _)) hz7 w_cd_Nu_init w_ini_Nu w_ml_Be_11 w_im_Nu_init rfl hd_Nu_init rfl hl.1 (Nat.le_of_ble_eq_true rfl) d_Be_init_34 ⟨Nat.le_of_ble_eq_true rfl, Nat.le_of_ble_eq_true rfl⟩ ⟨show 5 + 1 ≤ 90 by omega, show 329 + 160 ≤ 7000 by omega⟩ (fun v f3 H8 lc8 hp hS8 => ?_)
  refine W.cs (cells' := 6) (slots' := 489) rfl rfl ?_
  clear hS7 hz7
  obtain ⟨rfl, hz8, hk3, hN3⟩ := hp
  have hA3_0 : f3 (a) = some (.inr (4, [.ref (a + 1), .ref (a + 3), .null, .null, .null, .null, .null, .null, .null, .null, .null, .null, .null, .null, .null, .null])) := (hk3 _ (by omega)).trans ((pw_up_ne (by omega)).trans (pw_up_self _ _ _))
  have hN1 := hN1.mv (f' := f3) (fun q h1 h2 => (hk3 q (by omega)).trans (pw_n2 (by omega) (by omega)))
  have hN2 := hN2.mv (f' := f3) (fun q h1 h2 => (hk3 q (by omega)).trans (pw_n2 (by omega) (by omega)))
  have hfr3 : ∀ q, q < a → f3 q = f q := fun q hq => (hk3 q (by omega)).trans ((pw_n2 (by omega) (by omega)).trans (hfr2 q hq))
  replace hz8 : _ = a + 7 := hz8
  clear hk3 hfr2 hA2_0
  refine pw_putF X hS8 (v := .ref (a + 5)) (hA3_0) pc_Be 2 (by decide) w_fl_Be_23 rfl rfl hin rfl rfl rfl (Nat.le_of_ble_eq_true rfl) d_Be_init_37 (fun H9 lc9 hy9 hS9 => ?_)
  have hz9 := hy9.trans hz8; clear hy9 hS8 hz8
  replace hS9 : pw_S K (pw_up f3 (a) (.inr (4, [.ref (a + 1), .ref (a + 3), .ref (a + 5), .null, .null, .null, .null, .null, .null, .null, .null, .null, .null, .null, .null, .null]))) _ _ := hS9
  refine lv_aload_n hx hb d_Be_init_40 rfl (lv_at hl 0 rfl) ?_
  refine pw_new X hS9 pc_Nu w_cl_Be_9 w_ins_Nu w_ini_Nu (fs := [.null, .int 0, .int 0]) (by decide) (show 6 + 1 ≤ 90 by omega) (show 489 + 3 ≤ 7000 by omega) d_Be_init_41 hz9 (fun H10 hz10 hS10 => ?_)
  clear hS9 hz9
  refine W.cs (cells' := 7) (slots' := 492) rfl rfl ?_
  replace hS10 : pw_S K (pw_up (pw_up f3 (a) (.inr (4, [.ref (a + 1), .ref (a + 3), .ref (a + 5), .null, .null, .null, .null, .null, .null, .null, .null, .null, .null, .null, .null, .null]))) (a + 7) (.inr (0, [.null, .int 0, .int 0]))) _ _ := hS10
  refine lv_dup hx hb d_Be_init_44 rfl ?_
  refine lv_iconst (v := 1) hx hb d_Be_init_45 (by decide) ?_
  refine pw_callI X hS10 (As := [.int 1]) (rest := [.ref (a + 7), .ref a]) (c_Nu_init l K (pw_up (pw_up f3 (a) (.inr (4, [.ref (a + 1), .ref (a + 3), .ref (a + 5), .null, .null, .null, .null, .null, .null, .null, .null, .null, .null, .null, .null, .null]))) (a + 7) (.inr (0, [.null, .int 0, .int 0]))) (a + 7) 1 160 (by decide) (pw_up_self _ _ _)) hz10 w_cd_Nu_init w_ini_Nu w_ml_Be_11 w_im_Nu_init rfl hd_Nu_init rfl hl.1 (Nat.le_of_ble_eq_true rfl) d_Be_init_46 ⟨Nat.le_of_ble_eq_true rfl, Nat.le_of_ble_eq_true rfl⟩ ⟨show 7 + 1 ≤ 90 by omega, show 492 + 160 ≤ 7000 by omega⟩ (fun v f4 H11 lc11 hp hS11 => ?_)
  refine W.cs (cells' := 8) (slots' := 652) rfl rfl ?_
  clear hS10 hz10
  obtain ⟨rfl, hz11, hk4, hN4⟩ := hp
  have hA4_0 : f4 (a) = some (.inr (4, [.ref (a + 1), .ref (a + 3), .ref (a + 5), .null, .null, .null, .null, .null, .null, .null, .null, .null, .null, .null, .null, .null])) := (hk4 _ (by omega)).trans ((pw_up_ne (by omega)).trans (pw_up_self _ _ _))
  have hN1 := hN1.mv (f' := f4) (fun q h1 h2 => (hk4 q (by omega)).trans (pw_n2 (by omega) (by omega)))
  have hN2 := hN2.mv (f' := f4) (fun q h1 h2 => (hk4 q (by omega)).trans (pw_n2 (by omega) (by omega)))
  have hN3 := hN3.mv (f' := f4) (fun q h1 h2 => (hk4 q (by omega)).trans (pw_n2 (by omega) (by omega)))
  have hfr4 : ∀ q, q < a → f4 q = f q := fun q hq => (hk4 q (by omega)).trans ((pw_n2 (by omega) (by omega)).trans (hfr3 q hq))
  replace hz11 : _ = a + 9 := hz11
  clear hk4 hfr3 hA3_0
  refine pw_putF X hS11 (v := .ref (a + 7)) (hA4_0) pc_Be 3 (by decide) w_fl_Be_26 rfl rfl hin rfl rfl rfl (Nat.le_of_ble_eq_true rfl) d_Be_init_49 (fun H12 lc12 hy12 hS12 => ?_)
  have hz12 := hy12.trans hz11; clear hy12 hS11 hz11
  replace hS12 : pw_S K (pw_up f4 (a) (.inr (4, [.ref (a + 1), .ref (a + 3), .ref (a + 5), .ref (a + 7), .null, .null, .null, .null, .null, .null, .null, .null, .null, .null, .null, .null]))) _ _ := hS12
  refine lv_aload_n hx hb d_Be_init_52 rfl (lv_at hl 0 rfl) ?_
  refine pw_new X hS12 pc_Nu w_cl_Be_9 w_ins_Nu w_ini_Nu (fs := [.null, .int 0, .int 0]) (by decide) (show 8 + 1 ≤ 90 by omega) (show 652 + 3 ≤ 7000 by omega) d_Be_init_53 hz12 (fun H13 hz13 hS13 => ?_)
  clear hS12 hz12
  refine W.cs (cells' := 9) (slots' := 655) rfl rfl ?_
  replace hS13 : pw_S K (pw_up (pw_up f4 (a) (.inr (4, [.ref (a + 1), .ref (a + 3), .ref (a + 5), .ref (a + 7), .null, .null, .null, .null, .null, .null, .null, .null, .null, .null, .null, .null]))) (a + 9) (.inr (0, [.null, .int 0, .int 0]))) _ _ := hS13
  refine lv_dup hx hb d_Be_init_56 rfl ?_
  refine lv_iconst (v := 1) hx hb d_Be_init_57 (by decide) ?_
  refine pw_callI X hS13 (As := [.int 1]) (rest := [.ref (a + 9), .ref a]) (c_Nu_init l K (pw_up (pw_up f4 (a) (.inr (4, [.ref (a + 1), .ref (a + 3), .ref (a + 5), .ref (a + 7), .null, .null, .null, .null, .null, .null, .null, .null, .null, .null, .null, .null]))) (a + 9) (.inr (0, [.null, .int 0, .int 0]))) (a + 9) 1 160 (by decide) (pw_up_self _ _ _)) hz13 w_cd_Nu_init w_ini_Nu w_ml_Be_11 w_im_Nu_init rfl hd_Nu_init rfl hl.1 (Nat.le_of_ble_eq_true rfl) d_Be_init_58 ⟨Nat.le_of_ble_eq_true rfl, Nat.le_of_ble_eq_true rfl⟩ ⟨show 9 + 1 ≤ 90 by omega, show 655 + 160 ≤ 7000 by omega⟩ (fun v f5 H14 lc14 hp hS14 => ?_)
  refine W.cs (cells' := 10) (slots' := 815) rfl rfl ?_
  clear hS13 hz13
  obtain ⟨rfl, hz14, hk5, hN5⟩ := hp
  have hA5_0 : f5 (a) = some (.inr (4, [.ref (a + 1), .ref (a + 3), .ref (a + 5), .ref (a + 7), .null, .null, .null, .null, .null, .null, .null, .null, .null, .null, .null, .null])) := (hk5 _ (by omega)).trans ((pw_up_ne (by omega)).trans (pw_up_self _ _ _))
  have hN1 := hN1.mv (f' := f5) (fun q h1 h2 => (hk5 q (by omega)).trans (pw_n2 (by omega) (by omega)))
  have hN2 := hN2.mv (f' := f5) (fun q h1 h2 => (hk5 q (by omega)).trans (pw_n2 (by omega) (by omega)))
  have hN3 := hN3.mv (f' := f5) (fun q h1 h2 => (hk5 q (by omega)).trans (pw_n2 (by omega) (by omega)))
  have hN4 := hN4.mv (f' := f5) (fun q h1 h2 => (hk5 q (by omega)).trans (pw_n2 (by omega) (by omega)))
  have hfr5 : ∀ q, q < a → f5 q = f q := fun q hq => (hk5 q (by omega)).trans ((pw_n2 (by omega) (by omega)).trans (hfr4 q hq))
  replace hz14 : _ = a + 11 := hz14
  clear hk5 hfr4 hA4_0
  refine pw_putF X hS14 (v := .ref (a + 9)) (hA5_0) pc_Be 4 (by decide) w_fl_Be_29 rfl rfl hin rfl rfl rfl (Nat.le_of_ble_eq_true rfl) d_Be_init_61 (fun H15 lc15 hy15 hS15 => ?_)
  have hz15 := hy15.trans hz14; clear hy15 hS14 hz14
  replace hS15 : pw_S K (pw_up f5 (a) (.inr (4, [.ref (a + 1), .ref (a + 3), .ref (a + 5), .ref (a + 7), .ref (a + 9), .null, .null, .null, .null, .null, .null, .null, .null, .null, .null, .null]))) _ _ := hS15
  refine lv_aload_n hx hb d_Be_init_64 rfl (lv_at hl 0 rfl) ?_
  refine pw_new X hS15 pc_Nu w_cl_Be_9 w_ins_Nu w_ini_Nu (fs := [.null, .int 0, .int 0]) (by decide) (show 10 + 1 ≤ 90 by omega) (show 815 + 3 ≤ 7000 by omega) d_Be_init_65 hz15 (fun H16 hz16 hS16 => ?_)
  clear hS15 hz15
  refine W.cs (cells' := 11) (slots' := 818) rfl rfl ?_
  replace hS16 : pw_S K (pw_up (pw_up f5 (a) (.inr (4, [.ref (a + 1), .ref (a + 3), .ref (a + 5), .ref (a + 7), .ref (a + 9), .null, .null, .null, .null, .null, .null, .null, .null, .null, .null, .null]))) (a + 11) (.inr (0, [.null, .int 0, .int 0]))) _ _ := hS16
  refine lv_dup hx hb d_Be_init_68 rfl ?_
  refine lv_iconst (v := 1) hx hb d_Be_init_69 (by decide) ?_
  refine pw_callI X hS16 (As := [.int 1]) (rest := [.ref (a + 11), .ref a]) (c_Nu_init l K (pw_up (pw_up f5 (a) (.inr (4, [.ref (a + 1), .ref (a + 3), .ref (a + 5), .ref (a + 7), .ref (a + 9), .null, .null, .null, .null, .null, .null, .null, .null, .null, .null, .null]))) (a + 11) (.inr (0, [.null, .int 0, .int 0]))) (a + 11) 1 160 (by decide) (pw_up_self _ _ _)) hz16 w_cd_Nu_init w_ini_Nu w_ml_Be_11 w_im_Nu_init rfl hd_Nu_init rfl hl.1 (Nat.le_of_ble_eq_true rfl) d_Be_init_70 ⟨Nat.le_of_ble_eq_true rfl, Nat.le_of_ble_eq_true rfl⟩ ⟨show 11 + 1 ≤ 90 by omega, show 818 + 160 ≤ 7000 by omega⟩ (fun v f6 H17 lc17 hp hS17 => ?_)
  refine W.cs (cells' := 12) (slots' := 978) rfl rfl ?_
  clear hS16 hz16
  obtain ⟨rfl, hz17, hk6, hN6⟩ := hp
  have hA6_0 : f6 (a) = some (.inr (4, [.ref (a + 1), .ref (a + 3), .ref (a + 5), .ref (a + 7), .ref (a + 9), .null, .null, .null, .null, .null, .null, .null, .null, .null, .null, .null])) := (hk6 _ (by omega)).trans ((pw_up_ne (by omega)).trans (pw_up_self _ _ _))
  have hN1 := hN1.mv (f' := f6) (fun q h1 h2 => (hk6 q (by omega)).trans (pw_n2 (by omega) (by omega)))
  have hN2 := hN2.mv (f' := f6) (fun q h1 h2 => (hk6 q (by omega)).trans (pw_n2 (by omega) (by omega)))
  have hN3 := hN3.mv (f' := f6) (fun q h1 h2 => (hk6 q (by omega)).trans (pw_n2 (by omega) (by omega)))
  have hN4 := hN4.mv (f' := f6) (fun q h1 h2 => (hk6 q (by omega)).trans (pw_n2 (by omega) (by omega)))
  have hN5 := hN5.mv (f' := f6) (fun q h1 h2 => (hk6 q (by omega)).trans (pw_n2 (by omega) (by omega)))
  have hfr6 : ∀ q, q < a → f6 q = f q := fun q hq => (hk6 q (by omega)).trans ((pw_n2 (by omega) (by omega)).trans (hfr5 q hq))
  replace hz17 : _ = a + 13 := hz17
  clear hk6 hfr5 hA5_0
  refine pw_putF X hS17 (v := .ref (a + 11)) (hA6_0) pc_Be 5 (by decide) w_fl_Be_32 rfl rfl hin rfl rfl rfl (Nat.le_of_ble_eq_true rfl) d_Be_init_73 (fun H18 lc18 hy18 hS18 => ?_)
  have hz18 := hy18.trans hz17; clear hy18 hS17 hz17
  replace hS18 : pw_S K (pw_up f6 (a) (.inr (4, [.ref (a + 1), .ref (a + 3), .ref (a + 5), .ref (a + 7), .ref (a + 9), .ref (a + 11), .null, .null, .null, .null, .null, .null, .null, .null, .null, .null]))) _ _ := hS18
  refine lv_aload_n hx hb d_Be_init_76 rfl (lv_at hl 0 rfl) ?_
  refine pw_new X hS18 pc_Nu w_cl_Be_9 w_ins_Nu w_ini_Nu (fs := [.null, .int 0, .int 0]) (by decide) (show 12 + 1 ≤ 90 by omega) (show 978 + 3 ≤ 7000 by omega) d_Be_init_77 hz18 (fun H19 hz19 hS19 => ?_)
  clear hS18 hz18
  refine W.cs (cells' := 13) (slots' := 981) rfl rfl ?_
  replace hS19 : pw_S K (pw_up (pw_up f6 (a) (.inr (4, [.ref (a + 1), .ref (a + 3), .ref (a + 5), .ref (a + 7), .ref (a + 9), .ref (a + 11), .null, .null, .null, .null, .null, .null, .null, .null, .null, .null]))) (a + 13) (.inr (0, [.null, .int 0, .int 0]))) _ _ := hS19
  refine lv_dup hx hb d_Be_init_80 rfl ?_
  refine lv_iconst (v := 1) hx hb d_Be_init_81 (by decide) ?_
  refine pw_callI X hS19 (As := [.int 1]) (rest := [.ref (a + 13), .ref a]) (c_Nu_init l K (pw_up (pw_up f6 (a) (.inr (4, [.ref (a + 1), .ref (a + 3), .ref (a + 5), .ref (a + 7), .ref (a + 9), .ref (a + 11), .null, .null, .null, .null, .null, .null, .null, .null, .null, .null]))) (a + 13) (.inr (0, [.null, .int 0, .int 0]))) (a + 13) 1 160 (by decide) (pw_up_self _ _ _)) hz19 w_cd_Nu_init w_ini_Nu w_ml_Be_11 w_im_Nu_init rfl hd_Nu_init rfl hl.1 (Nat.le_of_ble_eq_true rfl) d_Be_init_82 ⟨Nat.le_of_ble_eq_true rfl, Nat.le_of_ble_eq_true rfl⟩ ⟨show 13 + 1 ≤ 90 by omega, show 981 + 160 ≤ 7000 by omega⟩ (fun v f7 H20 lc20 hp hS20 => ?_)
  refine W.cs (cells' := 14) (slots' := 1141) rfl rfl ?_
  clear hS19 hz19
  obtain ⟨rfl, hz20, hk7, hN7⟩ := hp
  have hA7_0 : f7 (a) = some (.inr (4, [.ref (a + 1), .ref (a + 3), .ref (a + 5), .ref (a + 7), .ref (a + 9), .ref (a + 11), .null, .null, .null, .null, .null, .null, .null, .null, .null, .null])) := (hk7 _ (by omega)).trans ((pw_up_ne (by omega)).trans (pw_up_self _ _ _))
  have hN1 := hN1.mv (f' := f7) (fun q h1 h2 => (hk7 q (by omega)).trans (pw_n2 (by omega) (by omega)))
  have hN2 := hN2.mv (f' := f7) (fun q h1 h2 => (hk7 q (by omega)).trans (pw_n2 (by omega) (by omega)))
  have hN3 := hN3.mv (f' := f7) (fun q h1 h2 => (hk7 q (by omega)).trans (pw_n2 (by omega) (by omega)))
  have hN4 := hN4.mv (f' := f7) (fun q h1 h2 => (hk7 q (by omega)).trans (pw_n2 (by omega) (by omega)))
  have hN5 := hN5.mv (f' := f7) (fun q h1 h2 => (hk7 q (by omega)).trans (pw_n2 (by omega) (by omega)))
  have hN6 := hN6.mv (f' := f7) (fun q h1 h2 => (hk7 q (by omega)).trans (pw_n2 (by omega) (by omega)))
  have hfr7 : ∀ q, q < a → f7 q = f q := fun q hq => (hk7 q (by omega)).trans ((pw_n2 (by omega) (by omega)).trans (hfr6 q hq))
  replace hz20 : _ = a + 15 := hz20
  clear hk7 hfr6 hA6_0
  refine pw_putF X hS20 (v := .ref (a + 13)) (hA7_0) pc_Be 6 (by decide) w_fl_Be_35 rfl rfl hin rfl rfl rfl (Nat.le_of_ble_eq_true rfl) d_Be_init_85 (fun H21 lc21 hy21 hS21 => ?_)
  have hz21 := hy21.trans hz20; clear hy21 hS20 hz20
  replace hS21 : pw_S K (pw_up f7 (a) (.inr (4, [.ref (a + 1), .ref (a + 3), .ref (a + 5), .ref (a + 7), .ref (a + 9), .ref (a + 11), .ref (a + 13), .null, .null, .null, .null, .null, .null, .null, .null, .null]))) _ _ := hS21
  refine lv_aload_n hx hb d_Be_init_88 rfl (lv_at hl 0 rfl) ?_
  refine pw_new X hS21 pc_Nu w_cl_Be_9 w_ins_Nu w_ini_Nu (fs := [.null, .int 0, .int 0]) (by decide) (show 14 + 1 ≤ 90 by omega) (show 1141 + 3 ≤ 7000 by omega) d_Be_init_89 hz21 (fun H22 hz22 hS22 => ?_)
  clear hS21 hz21
  refine W.cs (cells' := 15) (slots' := 1144) rfl rfl ?_
  replace hS22 : pw_S K (pw_up (pw_up f7 (a) (.inr (4, [.ref (a + 1), .ref (a + 3), .ref (a + 5), .ref (a + 7), .ref (a + 9), .ref (a + 11), .ref (a + 13), .null, .null, .null, .null, .null, .null, .null, .null, .null]))) (a + 15) (.inr (0, [.null, .int 0, .int 0]))) _ _ := hS22
  refine lv_dup hx hb d_Be_init_92 rfl ?_
  refine lv_iconst (v := 1) hx hb d_Be_init_93 (by decide) ?_
  refine pw_callI X hS22 (As := [.int 1]) (rest := [.ref (a + 15), .ref a]) (c_Nu_init l K (pw_up (pw_up f7 (a) (.inr (4, [.ref (a + 1), .ref (a + 3), .ref (a + 5), .ref (a + 7), .ref (a + 9), .ref (a + 11), .ref (a + 13), .null, .null, .null, .null, .null, .null, .null, .null, .null]))) (a + 15) (.inr (0, [.null, .int 0, .int 0]))) (a + 15) 1 160 (by decide) (pw_up_self _ _ _)) hz22 w_cd_Nu_init w_ini_Nu w_ml_Be_11 w_im_Nu_init rfl hd_Nu_init rfl hl.1 (Nat.le_of_ble_eq_true rfl) d_Be_init_94 ⟨Nat.le_of_ble_eq_true rfl, Nat.le_of_ble_eq_true rfl⟩ ⟨show 15 + 1 ≤ 90 by omega, show 1144 + 160 ≤ 7000 by omega⟩ (fun v f8 H23 lc23 hp hS23 => ?_)
  refine W.cs (cells' := 16) (slots' := 1304) rfl rfl ?_
  clear hS22 hz22
  obtain ⟨rfl, hz23, hk8, hN8⟩ := hp
  have hA8_0 : f8 (a) = some (.inr (4, [.ref (a + 1), .ref (a + 3), .ref (a + 5), .ref (a + 7), .ref (a + 9), .ref (a + 11), .ref (a + 13), .null, .null, .null, .null, .null, .null, .null, .null, .null])) := (hk8 _ (by omega)).trans ((pw_up_ne (by omega)).trans (pw_up_self _ _ _))
  have hN1 := hN1.mv (f' := f8) (fun q h1 h2 => (hk8 q (by omega)).trans (pw_n2 (by omega) (by omega)))
  have hN2 := hN2.mv (f' := f8) (fun q h1 h2 => (hk8 q (by omega)).trans (pw_n2 (by omega) (by omega)))
  have hN3 := hN3.mv (f' := f8) (fun q h1 h2 => (hk8 q (by omega)).trans (pw_n2 (by omega) (by omega)))
  have hN4 := hN4.mv (f' := f8) (fun q h1 h2 => (hk8 q (by omega)).trans (pw_n2 (by omega) (by omega)))
  have hN5 := hN5.mv (f' := f8) (fun q h1 h2 => (hk8 q (by omega)).trans (pw_n2 (by omega) (by omega)))
  have hN6 := hN6.mv (f' := f8) (fun q h1 h2 => (hk8 q (by omega)).trans (pw_n2 (by omega) (by omega)))
  have hN7 := hN7.mv (f' := f8) (fun q h1 h2 => (hk8 q (by omega)).trans (pw_n2 (by omega) (by omega)))
  have hfr8 : ∀ q, q < a → f8 q = f q := fun q hq => (hk8 q (by omega)).trans ((pw_n2 (by omega) (by omega)).trans (hfr7 q hq))
  replace hz23 : _ = a + 17 := hz23
  clear hk8 hfr7 hA7_0
  refine pw_putF X hS23 (v := .ref (a + 15)) (hA8_0) pc_Be 7 (by decide) w_fl_Be_38 rfl rfl hin rfl rfl rfl (Nat.le_of_ble_eq_true rfl) d_Be_init_97 (fun H24 lc24 hy24 hS24 => ?_)
  have hz24 := hy24.trans hz23; clear hy24 hS23 hz23
  replace hS24 : pw_S K (pw_up f8 (a) (.inr (4, [.ref (a + 1), .ref (a + 3), .ref (a + 5), .ref (a + 7), .ref (a + 9), .ref (a + 11), .ref (a + 13), .ref (a + 15), .null, .null, .null, .null, .null, .null, .null, .null]))) _ _ := hS24
  refine lv_aload_n hx hb d_Be_init_100 rfl (lv_at hl 0 rfl) ?_
  refine pw_new X hS24 pc_Nu w_cl_Be_9 w_ins_Nu w_ini_Nu (fs := [.null, .int 0, .int 0]) (by decide) (show 16 + 1 ≤ 90 by omega) (show 1304 + 3 ≤ 7000 by omega) d_Be_init_101 hz24 (fun H25 hz25 hS25 => ?_)
  clear hS24 hz24
  refine W.cs (cells' := 17) (slots' := 1307) rfl rfl ?_
  replace hS25 : pw_S K (pw_up (pw_up f8 (a) (.inr (4, [.ref (a + 1), .ref (a + 3), .ref (a + 5), .ref (a + 7), .ref (a + 9), .ref (a + 11), .ref (a + 13), .ref (a + 15), .null, .null, .null, .null, .null, .null, .null, .null]))) (a + 17) (.inr (0, [.null, .int 0, .int 0]))) _ _ := hS25
  refine lv_dup hx hb d_Be_init_104 rfl ?_
  refine lv_iconst (v := 1) hx hb d_Be_init_105 (by decide) ?_
  refine pw_callI X hS25 (As := [.int 1]) (rest := [.ref (a + 17), .ref a]) (c_Nu_init l K (pw_up (pw_up f8 (a) (.inr (4, [.ref (a + 1), .ref (a + 3), .ref (a + 5), .ref (a + 7), .ref (a + 9), .ref (a + 11), .ref (a + 13), .ref (a + 15), .null, .null, .null, .null, .null, .null, .null, .null]))) (a + 17) (.inr (0, [.null, .int 0, .int 0]))) (a + 17) 1 160 (by decide) (pw_up_self _ _ _)) hz25 w_cd_Nu_init w_ini_Nu w_ml_Be_11 w_im_Nu_init rfl hd_Nu_init rfl hl.1 (Nat.le_of_ble_eq_true rfl) d_Be_init_106 ⟨Nat.le_of_ble_eq_true rfl, Nat.le_of_ble_eq_true rfl⟩ ⟨show 17 + 1 ≤ 90 by omega, show 1307 + 160 ≤ 7000 by omega⟩ (fun v f9 H26 lc26 hp hS26 => ?_)
  refine W.cs (cells' := 18) (slots' := 1467) rfl rfl ?_
  clear hS25 hz25
  obtain ⟨rfl, hz26, hk9, hN9⟩ := hp
  have hA9_0 : f9 (a) = some (.inr (4, [.ref (a + 1), .ref (a + 3), .ref (a + 5), .ref (a + 7), .ref (a + 9), .ref (a + 11), .ref (a + 13), .ref (a + 15), .null, .null, .null, .null, .null, .null, .null, .null])) := (hk9 _ (by omega)).trans ((pw_up_ne (by omega)).trans (pw_up_self _ _ _))
  have hN1 := hN1.mv (f' := f9) (fun q h1 h2 => (hk9 q (by omega)).trans (pw_n2 (by omega) (by omega)))
  have hN2 := hN2.mv (f' := f9) (fun q h1 h2 => (hk9 q (by omega)).trans (pw_n2 (by omega) (by omega)))
  have hN3 := hN3.mv (f' := f9) (fun q h1 h2 => (hk9 q (by omega)).trans (pw_n2 (by omega) (by omega)))
  have hN4 := hN4.mv (f' := f9) (fun q h1 h2 => (hk9 q (by omega)).trans (pw_n2 (by omega) (by omega)))
  have hN5 := hN5.mv (f' := f9) (fun q h1 h2 => (hk9 q (by omega)).trans (pw_n2 (by omega) (by omega)))
  have hN6 := hN6.mv (f' := f9) (fun q h1 h2 => (hk9 q (by omega)).trans (pw_n2 (by omega) (by omega)))
  have hN7 := hN7.mv (f' := f9) (fun q h1 h2 => (hk9 q (by omega)).trans (pw_n2 (by omega) (by omega)))
  have hN8 := hN8.mv (f' := f9) (fun q h1 h2 => (hk9 q (by omega)).trans (pw_n2 (by omega) (by omega)))
  have hfr9 : ∀ q, q < a → f9 q = f q := fun q hq => (hk9 q (by omega)).trans ((pw_n2 (by omega) (by omega)).trans (hfr8 q hq))
  replace hz26 : _ = a + 19 := hz26
  clear hk9 hfr8 hA8_0
  refine pw_putF X hS26 (v := .ref (a + 17)) (hA9_0) pc_Be 8 (by decide) w_fl_Be_41 rfl rfl hin rfl rfl rfl (Nat.le_of_ble_eq_true rfl) d_Be_init_109 (fun H27 lc27 hy27 hS27 => ?_)
  have hz27 := hy27.trans hz26; clear hy27 hS26 hz26
  replace hS27 : pw_S K (pw_up f9 (a) (.inr (4, [.ref (a + 1), .ref (a + 3), .ref (a + 5), .ref (a + 7), .ref (a + 9), .ref (a + 11), .ref (a + 13), .ref (a + 15), .ref (a + 17), .null, .null, .null, .null, .null, .null, .null]))) _ _ := hS27
  refine lv_aload_n hx hb d_Be_init_112 rfl (lv_at hl 0 rfl) ?_
  refine pw_new X hS27 pc_Nu w_cl_Be_9 w_ins_Nu w_ini_Nu (fs := [.null, .int 0, .int 0]) (by decide) (show 18 + 1 ≤ 90 by omega) (show 1467 + 3 ≤ 7000 by omega) d_Be_init_113 hz27 (fun H28 hz28 hS28 => ?_)
  clear hS27 hz27
  refine W.cs (cells' := 19) (slots' := 1470) rfl rfl ?_
  replace hS28 : pw_S K (pw_up (pw_up f9 (a) (.inr (4, [.ref (a + 1), .ref (a + 3), .ref (a + 5), .ref (a + 7), .ref (a + 9), .ref (a + 11), .ref (a + 13), .ref (a + 15), .ref (a + 17), .null, .null, .null, .null, .null, .null, .null]))) (a + 19) (.inr (0, [.null, .int 0, .int 0]))) _ _ := hS28
  refine lv_dup hx hb d_Be_init_116 rfl ?_
  refine lv_iconst (v := 1) hx hb d_Be_init_117 (by decide) ?_
  refine pw_callI X hS28 (As := [.int 1]) (rest := [.ref (a + 19), .ref a]) (c_Nu_init l K (pw_up (pw_up f9 (a) (.inr (4, [.ref (a + 1), .ref (a + 3), .ref (a + 5), .ref (a + 7), .ref (a + 9), .ref (a + 11), .ref (a + 13), .ref (a + 15), .ref (a + 17), .null, .null, .null, .null, .null, .null, .null]))) (a + 19) (.inr (0, [.null, .int 0, .int 0]))) (a + 19) 1 160 (by decide) (pw_up_self _ _ _)) hz28 w_cd_Nu_init w_ini_Nu w_ml_Be_11 w_im_Nu_init rfl hd_Nu_init rfl hl.1 (Nat.le_of_ble_eq_true rfl) d_Be_init_118 ⟨Nat.le_of_ble_eq_true rfl, Nat.le_of_ble_eq_true rfl⟩ ⟨show 19 + 1 ≤ 90 by omega, show 1470 + 160 ≤ 7000 by omega⟩ (fun v f10 H29 lc29 hp hS29 => ?_)
  refine W.cs (cells' := 20) (slots' := 1630) rfl rfl ?_
  clear hS28 hz28
  obtain ⟨rfl, hz29, hk10, hN10⟩ := hp
  have hA10_0 : f10 (a) = some (.inr (4, [.ref (a + 1), .ref (a + 3), .ref (a + 5), .ref (a + 7), .ref (a + 9), .ref (a + 11), .ref (a + 13), .ref (a + 15), .ref (a + 17), .null, .null, .null, .null, .null, .null, .null])) := (hk10 _ (by omega)).trans ((pw_up_ne (by omega)).trans (pw_up_self _ _ _))
  have hN1 := hN1.mv (f' := f10) (fun q h1 h2 => (hk10 q (by omega)).trans (pw_n2 (by omega) (by omega)))
  have hN2 := hN2.mv (f' := f10) (fun q h1 h2 => (hk10 q (by omega)).trans (pw_n2 (by omega) (by omega)))
  have hN3 := hN3.mv (f' := f10) (fun q h1 h2 => (hk10 q (by omega)).trans (pw_n2 (by omega) (by omega)))
  have hN4 := hN4.mv (f' := f10) (fun q h1 h2 => (hk10 q (by omega)).trans (pw_n2 (by omega) (by omega)))
  have hN5 := hN5.mv (f' := f10) (fun q h1 h2 => (hk10 q (by omega)).trans (pw_n2 (by omega) (by omega)))
  have hN6 := hN6.mv (f' := f10) (fun q h1 h2 => (hk10 q (by omega)).trans (pw_n2 (by omega) (by omega)))
  have hN7 := hN7.mv (f' := f10) (fun q h1 h2 => (hk10 q (by omega)).trans (pw_n2 (by omega) (by omega)))
  have hN8 := hN8.mv (f' := f10) (fun q h1 h2 => (hk10 q (by omega)).trans (pw_n2 (by omega) (by omega)))
  have hN9 := hN9.mv (f' := f10) (fun q h1 h2 => (hk10 q (by omega)).trans (pw_n2 (by omega) (by omega)))
  have hfr10 : ∀ q, q < a → f10 q = f q := fun q hq => (hk10 q (by omega)).trans ((pw_n2 (by omega) (by omega)).trans (hfr9 q hq))
  replace hz29 : _ = a + 21 := hz29
  clear hk10 hfr9 hA9_0
  refine pw_putF X hS29 (v := .ref (a + 19)) (hA10_0) pc_Be 9 (by decide) w_fl_Be_44 rfl rfl hin rfl rfl rfl (Nat.le_of_ble_eq_true rfl) d_Be_init_121 (fun H30 lc30 hy30 hS30 => ?_)
  have hz30 := hy30.trans hz29; clear hy30 hS29 hz29
  replace hS30 : pw_S K (pw_up f10 (a) (.inr (4, [.ref (a + 1), .ref (a + 3), .ref (a + 5), .ref (a + 7), .ref (a + 9), .ref (a + 11), .ref (a + 13), .ref (a + 15), .ref (a + 17), .ref (a + 19), .null, .null, .null, .null, .null, .null]))) _ _ := hS30
  refine lv_aload_n hx hb d_Be_init_124 rfl (lv_at hl 0 rfl) ?_
  refine pw_new X hS30 pc_Nu w_cl_Be_9 w_ins_Nu w_ini_Nu (fs := [.null, .int 0, .int 0]) (by decide) (show 20 + 1 ≤ 90 by omega) (show 1630 + 3 ≤ 7000 by omega) d_Be_init_125 hz30 (fun H31 hz31 hS31 => ?_)
  clear hS30 hz30
  refine W.cs (cells' := 21) (slots' := 1633) rfl rfl ?_
  replace hS31 : pw_S K (pw_up (pw_up f10 (a) (.inr (4, [.ref (a + 1), .ref (a + 3), .ref (a + 5), .ref (a + 7), .ref (a + 9), .ref (a + 11), .ref (a + 13), .ref (a + 15), .ref (a + 17), .ref (a + 19), .null, .null, .null, .null, .null, .null]))) (a + 21) (.inr (0, [.null, .int 0, .int 0]))) _ _ := hS31
  refine lv_dup hx hb d_Be_init_128 rfl ?_
  refine lv_iconst (v := 1) hx hb d_Be_init_129 (by decide) ?_
  refine pw_callI X hS31 (As := [.int 1]) (rest := [.ref (a + 21), .ref a]) (c_Nu_init l K (pw_up (pw_up f10 (a) (.inr (4, [.ref (a + 1), .ref (a + 3), .ref (a + 5), .ref (a + 7), .ref (a + 9), .ref (a + 11), .ref (a + 13), .ref (a + 15), .ref (a + 17), .ref (a + 19), .null, .null, .null, .null, .null, .null]))) (a + 21) (.inr (0, [.null, .int 0, .int 0]))) (a + 21) 1 160 (by decide) (pw_up_self _ _ _)) hz31 w_cd_Nu_init w_ini_Nu w_ml_Be_11 w_im_Nu_init rfl hd_Nu_init rfl hl.1 (Nat.le_of_ble_eq_true rfl) d_Be_init_130 ⟨Nat.le_of_ble_eq_true rfl, Nat.le_of_ble_eq_true rfl⟩ ⟨show 21 + 1 ≤ 90 by omega, show 1633 + 160 ≤ 7000 by omega⟩ (fun v f11 H32 lc32 hp hS32 => ?_)
  refine W.cs (cells' := 22) (slots' := 1793) rfl rfl ?_
  clear hS31 hz31
  obtain ⟨rfl, hz32, hk11, hN11⟩ := hp
  have hA11_0 : f11 (a) = some (.inr (4, [.ref (a + 1), .ref (a + 3), .ref (a + 5), .ref (a + 7), .ref (a + 9), .ref (a + 11), .ref (a + 13), .ref (a + 15), .ref (a + 17), .ref (a + 19), .null, .null, .null, .null, .null, .null])) := (hk11 _ (by omega)).trans ((pw_up_ne (by omega)).trans (pw_up_self _ _ _))
  have hN1 := hN1.mv (f' := f11) (fun q h1 h2 => (hk11 q (by omega)).trans (pw_n2 (by omega) (by omega)))
  have hN2 := hN2.mv (f' := f11) (fun q h1 h2 => (hk11 q (by omega)).trans (pw_n2 (by omega) (by omega)))
  have hN3 := hN3.mv (f' := f11) (fun q h1 h2 => (hk11 q (by omega)).trans (pw_n2 (by omega) (by omega)))
  have hN4 := hN4.mv (f' := f11) (fun q h1 h2 => (hk11 q (by omega)).trans (pw_n2 (by omega) (by omega)))
  have hN5 := hN5.mv (f' := f11) (fun q h1 h2 => (hk11 q (by omega)).trans (pw_n2 (by omega) (by omega)))
  have hN6 := hN6.mv (f' := f11) (fun q h1 h2 => (hk11 q (by omega)).trans (pw_n2 (by omega) (by omega)))
  have hN7 := hN7.mv (f' := f11) (fun q h1 h2 => (hk11 q (by omega)).trans (pw_n2 (by omega) (by omega)))
  have hN8 := hN8.mv (f' := f11) (fun q h1 h2 => (hk11 q (by omega)).trans (pw_n2 (by omega) (by omega)))
  have hN9 := hN9.mv (f' := f11) (fun q h1 h2 => (hk11 q (by omega)).trans (pw_n2 (by omega) (by omega)))
  have hN10 := hN10.mv (f' := f11) (fun q h1 h2 => (hk11 q (by omega)).trans (pw_n2 (by omega) (by omega)))
  have hfr11 : ∀ q, q < a → f11 q = f q := fun q hq => (hk11 q (by omega)).trans ((pw_n2 (by omega) (by omega)).trans (hfr10 q hq))
  replace hz32 : _ = a + 23 := hz32
  clear hk11 hfr10 hA10_0
  refine pw_putF X hS32 (v := .ref (a + 21)) (hA11_0) pc_Be 10 (by decide) w_fl_Be_47 rfl rfl hin rfl rfl rfl (Nat.le_of_ble_eq_true rfl) d_Be_init_133 (fun H33 lc33 hy33 hS33 => ?_)
  have hz33 := hy33.trans hz32; clear hy33 hS32 hz32
  replace hS33 : pw_S K (pw_up f11 (a) (.inr (4, [.ref (a + 1), .ref (a + 3), .ref (a + 5), .ref (a + 7), .ref (a + 9), .ref (a + 11), .ref (a + 13), .ref (a + 15), .ref (a + 17), .ref (a + 19), .ref (a + 21), .null, .null, .null, .null, .null]))) _ _ := hS33
  refine lv_aload_n hx hb d_Be_init_136 rfl (lv_at hl 0 rfl) ?_
  refine pw_new X hS33 pc_Nu w_cl_Be_9 w_ins_Nu w_ini_Nu (fs := [.null, .int 0, .int 0]) (by decide) (show 22 + 1 ≤ 90 by omega) (show 1793 + 3 ≤ 7000 by omega) d_Be_init_137 hz33 (fun H34 hz34 hS34 => ?_)
  clear hS33 hz33
  refine W.cs (cells' := 23) (slots' := 1796) rfl rfl ?_
  replace hS34 : pw_S K (pw_up (pw_up f11 (a) (.inr (4, [.ref (a + 1), .ref (a + 3), .ref (a + 5), .ref (a + 7), .ref (a + 9), .ref (a + 11), .ref (a + 13), .ref (a + 15), .ref (a + 17), .ref (a + 19), .ref (a + 21), .null, .null, .null, .null, .null]))) (a + 23) (.inr (0, [.null, .int 0, .int 0]))) _ _ := hS34
  refine lv_dup hx hb d_Be_init_140 rfl ?_
  refine lv_iconst (v := 1) hx hb d_Be_init_141 (by decide) ?_
  refine pw_callI X hS34 (As := [.int 1]) (rest := [.ref (a + 23), .ref a]) (c_Nu_init l K (pw_up (pw_up f11 (a) (.inr (4, [.ref (a + 1), .ref (a + 3), .ref (a + 5), .ref (a + 7), .ref (a + 9), .ref (a + 11), .ref (a + 13), .ref (a + 15), .ref (a + 17), .ref (a + 19), .ref (a + 21), .null, .null, .null, .null, .null]))) (a + 23) (.inr (0, [.null, .int 0, .int 0]))) (a + 23) 1 160 (by decide) (pw_up_self _ _ _)) hz34 w_cd_Nu_init w_ini_Nu w_ml_Be_11 w_im_Nu_init rfl hd_Nu_init rfl hl.1 (Nat.le_of_ble_eq_true rfl) d_Be_init_142 ⟨Nat.le_of_ble_eq_true rfl, Nat.le_of_ble_eq_true rfl⟩ ⟨show 23 + 1 ≤ 90 by omega, show 1796 + 160 ≤ 7000 by omega⟩ (fun v f12 H35 lc35 hp hS35 => ?_)
  refine W.cs (cells' := 24) (slots' := 1956) rfl rfl ?_
  clear hS34 hz34
  obtain ⟨rfl, hz35, hk12, hN12⟩ := hp
  have hA12_0 : f12 (a) = some (.inr (4, [.ref (a + 1), .ref (a + 3), .ref (a + 5), .ref (a + 7), .ref (a + 9), .ref (a + 11), .ref (a + 13), .ref (a + 15), .ref (a + 17), .ref (a + 19), .ref (a + 21), .null, .null, .null, .null, .null])) := (hk12 _ (by omega)).trans ((pw_up_ne (by omega)).trans (pw_up_self _ _ _))
  have hN1 := hN1.mv (f' := f12) (fun q h1 h2 => (hk12 q (by omega)).trans (pw_n2 (by omega) (by omega)))
  have hN2 := hN2.mv (f' := f12) (fun q h1 h2 => (hk12 q (by omega)).trans (pw_n2 (by omega) (by omega)))
  have hN3 := hN3.mv (f' := f12) (fun q h1 h2 => (hk12 q (by omega)).trans (pw_n2 (by omega) (by omega)))
  have hN4 := hN4.mv (f' := f12) (fun q h1 h2 => (hk12 q (by omega)).trans (pw_n2 (by omega) (by omega)))
  have hN5 := hN5.mv (f' := f12) (fun q h1 h2 => (hk12 q (by omega)).trans (pw_n2 (by omega) (by omega)))
  have hN6 := hN6.mv (f' := f12) (fun q h1 h2 => (hk12 q (by omega)).trans (pw_n2 (by omega) (by omega)))
  have hN7 := hN7.mv (f' := f12) (fun q h1 h2 => (hk12 q (by omega)).trans (pw_n2 (by omega) (by omega)))
  have hN8 := hN8.mv (f' := f12) (fun q h1 h2 => (hk12 q (by omega)).trans (pw_n2 (by omega) (by omega)))
  have hN9 := hN9.mv (f' := f12) (fun q h1 h2 => (hk12 q (by omega)).trans (pw_n2 (by omega) (by omega)))
  have hN10 := hN10.mv (f' := f12) (fun q h1 h2 => (hk12 q (by omega)).trans (pw_n2 (by omega) (by omega)))
  have hN11 := hN11.mv (f' := f12) (fun q h1 h2 => (hk12 q (by omega)).trans (pw_n2 (by omega) (by omega)))
  have hfr12 : ∀ q, q < a → f12 q = f q := fun q hq => (hk12 q (by omega)).trans ((pw_n2 (by omega) (by omega)).trans (hfr11 q hq))
  replace hz35 : _ = a + 25 := hz35
  clear hk12 hfr11 hA11_0
  refine pw_putF X hS35 (v := .ref (a + 23)) (hA12_0) pc_Be 11 (by decide) w_fl_Be_50 rfl rfl hin rfl rfl rfl (Nat.le_of_ble_eq_true rfl) d_Be_init_145 (fun H36 lc36 hy36 hS36 => ?_)
  have hz36 := hy36.trans hz35; clear hy36 hS35 hz35
  replace hS36 : pw_S K (pw_up f12 (a) (.inr (4, [.ref (a + 1), .ref (a + 3), .ref (a + 5), .ref (a + 7), .ref (a + 9), .ref (a + 11), .ref (a + 13), .ref (a + 15), .ref (a + 17), .ref (a + 19), .ref (a + 21), .ref (a + 23), .null, .null, .null, .null]))) _ _ := hS36
  refine lv_aload_n hx hb d_Be_init_148 rfl (lv_at hl 0 rfl) ?_
  refine pw_new X hS36 pc_Pt w_cl_Be_53 w_ins_Pt w_ini_Pt (fs := [.null, .int 0]) (by decide) (show 24 + 1 ≤ 90 by omega) (show 1956 + 2 ≤ 7000 by omega) d_Be_init_149 hz36 (fun H37 hz37 hS37 => ?_)
  clear hS36 hz36
  refine W.cs (cells' := 25) (slots' := 1958) rfl rfl ?_
  replace hS37 : pw_S K (pw_up (pw_up f12 (a) (.inr (4, [.ref (a + 1), .ref (a + 3), .ref (a + 5), .ref (a + 7), .ref (a + 9), .ref (a + 11), .ref (a + 13), .ref (a + 15), .ref (a + 17), .ref (a + 19), .ref (a + 21), .ref (a + 23), .null, .null, .null, .null]))) (a + 25) (.inr (1, [.null, .int 0]))) _ _ := hS37
  refine lv_dup hx hb d_Be_init_152 rfl ?_
  refine pw_callI X hS37 (As := []) (rest := [.ref (a + 25), .ref a]) (c_Pt_init l K (pw_up (pw_up f12 (a) (.inr (4, [.ref (a + 1), .ref (a + 3), .ref (a + 5), .ref (a + 7), .ref (a + 9), .ref (a + 11), .ref (a + 13), .ref (a + 15), .ref (a + 17), .ref (a + 19), .ref (a + 21), .ref (a + 23), .null, .null, .null, .null]))) (a + 25) (.inr (1, [.null, .int 0]))) (a + 25) (pw_up_self _ _ _)) hz37 w_cd_Pt_init w_ini_Pt w_ml_Be_55 w_im_Pt_init rfl hd_Pt_init rfl hl.1 (Nat.le_of_ble_eq_true rfl) d_Be_init_153 ⟨Nat.le_of_ble_eq_true rfl, Nat.le_of_ble_eq_true rfl⟩ ⟨show 25 + 2 ≤ 90 by omega, show 1958 + 60 ≤ 7000 by omega⟩ (fun v f13 H38 lc38 hp hS38 => ?_)
  refine W.cs (cells' := 27) (slots' := 2018) rfl rfl ?_
  clear hS37 hz37
  obtain ⟨rfl, hz38, hk13, hN13⟩ := hp
  have hA13_0 : f13 (a) = some (.inr (4, [.ref (a + 1), .ref (a + 3), .ref (a + 5), .ref (a + 7), .ref (a + 9), .ref (a + 11), .ref (a + 13), .ref (a + 15), .ref (a + 17), .ref (a + 19), .ref (a + 21), .ref (a + 23), .null, .null, .null, .null])) := (hk13 _ (by omega)).trans ((pw_up_ne (by omega)).trans (pw_up_self _ _ _))
  have hN1 := hN1.mv (f' := f13) (fun q h1 h2 => (hk13 q (by omega)).trans (pw_n2 (by omega) (by omega)))
  have hN2 := hN2.mv (f' := f13) (fun q h1 h2 => (hk13 q (by omega)).trans (pw_n2 (by omega) (by omega)))
  have hN3 := hN3.mv (f' := f13) (fun q h1 h2 => (hk13 q (by omega)).trans (pw_n2 (by omega) (by omega)))
  have hN4 := hN4.mv (f' := f13) (fun q h1 h2 => (hk13 q (by omega)).trans (pw_n2 (by omega) (by omega)))
  have hN5 := hN5.mv (f' := f13) (fun q h1 h2 => (hk13 q (by omega)).trans (pw_n2 (by omega) (by omega)))
  have hN6 := hN6.mv (f' := f13) (fun q h1 h2 => (hk13 q (by omega)).trans (pw_n2 (by omega) (by omega)))
  have hN7 := hN7.mv (f' := f13) (fun q h1 h2 => (hk13 q (by omega)).trans (pw_n2 (by omega) (by omega)))
  have hN8 := hN8.mv (f' := f13) (fun q h1 h2 => (hk13 q (by omega)).trans (pw_n2 (by omega) (by omega)))
  have hN9 := hN9.mv (f' := f13) (fun q h1 h2 => (hk13 q (by omega)).trans (pw_n2 (by omega) (by omega)))
  have hN10 := hN10.mv (f' := f13) (fun q h1 h2 => (hk13 q (by omega)).trans (pw_n2 (by omega) (by omega)))
  have hN11 := hN11.mv (f' := f13) (fun q h1 h2 => (hk13 q (by omega)).trans (pw_n2 (by omega) (by omega)))
  have hN12 := hN12.mv (f' := f13) (fun q h1 h2 => (hk13 q (by omega)).trans (pw_n2 (by omega) (by omega)))
  have hfr13 : ∀ q, q < a → f13 q = f q := fun q hq => (hk13 q (by omega)).trans ((pw_n2 (by omega) (by omega)).trans (hfr12 q hq))
  replace hz38 : _ = a + 28 := hz38
  clear hk13 hfr12 hA12_0
  refine pw_putF X hS38 (v := .ref (a + 25)) (hA13_0) pc_Be 12 (by decide) w_fl_Be_56 rfl rfl hin rfl rfl rfl (Nat.le_of_ble_eq_true rfl) d_Be_init_156 (fun H39 lc39 hy39 hS39 => ?_)
  have hz39 := hy39.trans hz38; clear hy39 hS38 hz38
  replace hS39 : pw_S K (pw_up f13 (a) (.inr (4, [.ref (a + 1), .ref (a + 3), .ref (a + 5), .ref (a + 7), .ref (a + 9), .ref (a + 11), .ref (a + 13), .ref (a + 15), .ref (a + 17), .ref (a + 19), .ref (a + 21), .ref (a + 23), .ref (a + 25), .null, .null, .null]))) _ _ := hS39
  refine lv_aload_n hx hb d_Be_init_159 rfl (lv_at hl 0 rfl) ?_
  refine pw_new X hS39 pc_Di w_cl_Be_60 w_ins_Di w_ini_Di (fs := [.null, .null, .null, .null]) (by decide) (show 27 + 1 ≤ 90 by omega) (show 2018 + 4 ≤ 7000 by omega) d_Be_init_160 hz39 (fun H40 hz40 hS40 => ?_)
  clear hS39 hz39
  refine W.cs (cells' := 28) (slots' := 2022) rfl rfl ?_
  replace hS40 : pw_S K (pw_up (pw_up f13 (a) (.inr (4, [.ref (a + 1), .ref (a + 3), .ref (a + 5), .ref (a + 7), .ref (a + 9), .ref (a + 11), .ref (a + 13), .ref (a + 15), .ref (a + 17), .ref (a + 19), .ref (a + 21), .ref (a + 23), .ref (a + 25), .null, .null, .null]))) (a + 28) (.inr (3, [.null, .null, .null, .null]))) _ _ := hS40
  refine lv_dup hx hb d_Be_init_163 rfl ?_
  refine pw_callI X hS40 (As := []) (rest := [.ref (a + 28), .ref a]) (c_Di_init l K (pw_up (pw_up f13 (a) (.inr (4, [.ref (a + 1), .ref (a + 3), .ref (a + 5), .ref (a + 7), .ref (a + 9), .ref (a + 11), .ref (a + 13), .ref (a + 15), .ref (a + 17), .ref (a + 19), .ref (a + 21), .ref (a + 23), .ref (a + 25), .null, .null, .null]))) (a + 28) (.inr (3, [.null, .null, .null, .null]))) (a + 28) (pw_up_self _ _ _)) hz40 w_cd_Di_init w_ini_Di w_ml_Be_62 w_im_Di_init rfl hd_Di_init rfl hl.1 (Nat.le_of_ble_eq_true rfl) d_Be_init_164 ⟨Nat.le_of_ble_eq_true rfl, Nat.le_of_ble_eq_true rfl⟩ ⟨show 28 + 8 ≤ 90 by omega, show 2022 + 700 ≤ 7000 by omega⟩ (fun v f14 H41 lc41 hp hS41 => ?_)
  refine W.cs (cells' := 36) (slots' := 2722) rfl rfl ?_
  clear hS40 hz40
  obtain ⟨rfl, hz41, hk14, hN14⟩ := hp
  have hA14_0 : f14 (a) = some (.inr (4, [.ref (a + 1), .ref (a + 3), .ref (a + 5), .ref (a + 7), .ref (a + 9), .ref (a + 11), .ref (a + 13), .ref (a + 15), .ref (a + 17), .ref (a + 19), .ref (a + 21), .ref (a + 23), .ref (a + 25), .null, .null, .null])) := (hk14 _ (by omega)).trans ((pw_up_ne (by omega)).trans (pw_up_self _ _ _))
  have hN1 := hN1.mv (f' := f14) (fun q h1 h2 => (hk14 q (by omega)).trans (pw_n2 (by omega) (by omega)))
  have hN2 := hN2.mv (f' := f14) (fun q h1 h2 => (hk14 q (by omega)).trans (pw_n2 (by omega) (by omega)))
  have hN3 := hN3.mv (f' := f14) (fun q h1 h2 => (hk14 q (by omega)).trans (pw_n2 (by omega) (by omega)))
  have hN4 := hN4.mv (f' := f14) (fun q h1 h2 => (hk14 q (by omega)).trans (pw_n2 (by omega) (by omega)))
  have hN5 := hN5.mv (f' := f14) (fun q h1 h2 => (hk14 q (by omega)).trans (pw_n2 (by omega) (by omega)))
  have hN6 := hN6.mv (f' := f14) (fun q h1 h2 => (hk14 q (by omega)).trans (pw_n2 (by omega) (by omega)))
  have hN7 := hN7.mv (f' := f14) (fun q h1 h2 => (hk14 q (by omega)).trans (pw_n2 (by omega) (by omega)))
  have hN8 := hN8.mv (f' := f14) (fun q h1 h2 => (hk14 q (by omega)).trans (pw_n2 (by omega) (by omega)))
  have hN9 := hN9.mv (f' := f14) (fun q h1 h2 => (hk14 q (by omega)).trans (pw_n2 (by omega) (by omega)))
  have hN10 := hN10.mv (f' := f14) (fun q h1 h2 => (hk14 q (by omega)).trans (pw_n2 (by omega) (by omega)))
  have hN11 := hN11.mv (f' := f14) (fun q h1 h2 => (hk14 q (by omega)).trans (pw_n2 (by omega) (by omega)))
  have hN12 := hN12.mv (f' := f14) (fun q h1 h2 => (hk14 q (by omega)).trans (pw_n2 (by omega) (by omega)))
  have hN13 := hN13.mv (f' := f14) (fun q h1 h2 => (hk14 q (by omega)).trans (pw_n2 (by omega) (by omega)))
  have hfr14 : ∀ q, q < a → f14 q = f q := fun q hq => (hk14 q (by omega)).trans ((pw_n2 (by omega) (by omega)).trans (hfr13 q hq))
  replace hz41 : _ = a + 37 := hz41
  clear hk14 hfr13 hA13_0
  refine pw_putF X hS41 (v := .ref (a + 28)) (hA14_0) pc_Be 13 (by decide) w_fl_Be_63 rfl rfl hin rfl rfl rfl (Nat.le_of_ble_eq_true rfl) d_Be_init_167 (fun H42 lc42 hy42 hS42 => ?_)
  have hz42 := hy42.trans hz41; clear hy42 hS41 hz41
  replace hS42 : pw_S K (pw_up f14 (a) (.inr (4, [.ref (a + 1), .ref (a + 3), .ref (a + 5), .ref (a + 7), .ref (a + 9), .ref (a + 11), .ref (a + 13), .ref (a + 15), .ref (a + 17), .ref (a + 19), .ref (a + 21), .ref (a + 23), .ref (a + 25), .ref (a + 28), .null, .null]))) _ _ := hS42
  refine lv_aload_n hx hb d_Be_init_170 rfl (lv_at hl 0 rfl) ?_
  refine pw_new X hS42 pc_Py w_cl_Be_67 w_ins_Py w_ini_Py (fs := [.null, .int 0]) (by decide) (show 36 + 1 ≤ 90 by omega) (show 2722 + 2 ≤ 7000 by omega) d_Be_init_171 hz42 (fun H43 hz43 hS43 => ?_)
  clear hS42 hz42
  refine W.cs (cells' := 37) (slots' := 2724) rfl rfl ?_
  replace hS43 : pw_S K (pw_up (pw_up f14 (a) (.inr (4, [.ref (a + 1), .ref (a + 3), .ref (a + 5), .ref (a + 7), .ref (a + 9), .ref (a + 11), .ref (a + 13), .ref (a + 15), .ref (a + 17), .ref (a + 19), .ref (a + 21), .ref (a + 23), .ref (a + 25), .ref (a + 28), .null, .null]))) (a + 37) (.inr (2, [.null, .int 0]))) _ _ := hS43
  refine lv_dup hx hb d_Be_init_174 rfl ?_
  refine lv_bipush (v := 16) hx hb d_Be_init_175 (by decide) ?_
  refine lv_iconst (v := 1) hx hb d_Be_init_177 (by decide) ?_
  refine pw_callI X hS43 (As := [.int 16, .int 1]) (rest := [.ref (a + 37), .ref a]) (c_Py_init l K (pw_up (pw_up f14 (a) (.inr (4, [.ref (a + 1), .ref (a + 3), .ref (a + 5), .ref (a + 7), .ref (a + 9), .ref (a + 11), .ref (a + 13), .ref (a + 15), .ref (a + 17), .ref (a + 19), .ref (a + 21), .ref (a + 23), .ref (a + 25), .ref (a + 28), .null, .null]))) (a + 37) (.inr (2, [.null, .int 0]))) (a + 37) 16 160 1 (by omega) (by decide) (pw_up_self _ _ _)) hz43 w_cd_Py_init w_ini_Py w_ml_Be_71 w_im_Py_init rfl hd_Py_init rfl hl.1 (Nat.le_of_ble_eq_true rfl) d_Be_init_178 ⟨Nat.le_of_ble_eq_true rfl, Nat.le_of_ble_eq_true rfl⟩ ⟨show 37 + 33 ≤ 90 by omega, show 2724 + 2624 ≤ 7000 by omega⟩ (fun v f15 H44 lc44 hp hS44 => ?_)
  refine W.cs (cells' := 70) (slots' := 5348) rfl rfl ?_
  clear hS43 hz43
  obtain ⟨rfl, hz44, hk15, hN15⟩ := hp
  have hA15_0 : f15 (a) = some (.inr (4, [.ref (a + 1), .ref (a + 3), .ref (a + 5), .ref (a + 7), .ref (a + 9), .ref (a + 11), .ref (a + 13), .ref (a + 15), .ref (a + 17), .ref (a + 19), .ref (a + 21), .ref (a + 23), .ref (a + 25), .ref (a + 28), .null, .null])) := (hk15 _ (by omega)).trans ((pw_up_ne (by omega)).trans (pw_up_self _ _ _))
  have hN1 := hN1.mv (f' := f15) (fun q h1 h2 => (hk15 q (by omega)).trans (pw_n2 (by omega) (by omega)))
  have hN2 := hN2.mv (f' := f15) (fun q h1 h2 => (hk15 q (by omega)).trans (pw_n2 (by omega) (by omega)))
  have hN3 := hN3.mv (f' := f15) (fun q h1 h2 => (hk15 q (by omega)).trans (pw_n2 (by omega) (by omega)))
  have hN4 := hN4.mv (f' := f15) (fun q h1 h2 => (hk15 q (by omega)).trans (pw_n2 (by omega) (by omega)))
  have hN5 := hN5.mv (f' := f15) (fun q h1 h2 => (hk15 q (by omega)).trans (pw_n2 (by omega) (by omega)))
  have hN6 := hN6.mv (f' := f15) (fun q h1 h2 => (hk15 q (by omega)).trans (pw_n2 (by omega) (by omega)))
  have hN7 := hN7.mv (f' := f15) (fun q h1 h2 => (hk15 q (by omega)).trans (pw_n2 (by omega) (by omega)))
  have hN8 := hN8.mv (f' := f15) (fun q h1 h2 => (hk15 q (by omega)).trans (pw_n2 (by omega) (by omega)))
  have hN9 := hN9.mv (f' := f15) (fun q h1 h2 => (hk15 q (by omega)).trans (pw_n2 (by omega) (by omega)))
  have hN10 := hN10.mv (f' := f15) (fun q h1 h2 => (hk15 q (by omega)).trans (pw_n2 (by omega) (by omega)))
  have hN11 := hN11.mv (f' := f15) (fun q h1 h2 => (hk15 q (by omega)).trans (pw_n2 (by omega) (by omega)))
  have hN12 := hN12.mv (f' := f15) (fun q h1 h2 => (hk15 q (by omega)).trans (pw_n2 (by omega) (by omega)))
  have hN13 := hN13.mv (f' := f15) (fun q h1 h2 => (hk15 q (by omega)).trans (pw_n2 (by omega) (by omega)))
  have hN14 := hN14.mv (f' := f15) (fun q h1 h2 => (hk15 q (by omega)).trans (pw_n2 (by omega) (by omega)))
  have hfr15 : ∀ q, q < a → f15 q = f q := fun q hq => (hk15 q (by omega)).trans ((pw_n2 (by omega) (by omega)).trans (hfr14 q hq))
  replace hz44 : _ = a + 71 := hz44
  clear hk15 hfr14 hA14_0
  refine pw_putF X hS44 (v := .ref (a + 37)) (hA15_0) pc_Be 14 (by decide) w_fl_Be_74 rfl rfl hin rfl rfl rfl (Nat.le_of_ble_eq_true rfl) d_Be_init_181 (fun H45 lc45 hy45 hS45 => ?_)
  have hz45 := hy45.trans hz44; clear hy45 hS44 hz44
  replace hS45 : pw_S K (pw_up f15 (a) (.inr (4, [.ref (a + 1), .ref (a + 3), .ref (a + 5), .ref (a + 7), .ref (a + 9), .ref (a + 11), .ref (a + 13), .ref (a + 15), .ref (a + 17), .ref (a + 19), .ref (a + 21), .ref (a + 23), .ref (a + 25), .ref (a + 28), .ref (a + 37), .null]))) _ _ := hS45
  refine lv_aload_n hx hb d_Be_init_184 rfl (lv_at hl 0 rfl) ?_
  refine pw_new X hS45 pc_Py w_cl_Be_67 w_ins_Py w_ini_Py (fs := [.null, .int 0]) (by decide) (show 70 + 1 ≤ 90 by omega) (show 5348 + 2 ≤ 7000 by omega) d_Be_init_185 hz45 (fun H46 hz46 hS46 => ?_)
  clear hS45 hz45
  refine W.cs (cells' := 71) (slots' := 5350) rfl rfl ?_
  replace hS46 : pw_S K (pw_up (pw_up f15 (a) (.inr (4, [.ref (a + 1), .ref (a + 3), .ref (a + 5), .ref (a + 7), .ref (a + 9), .ref (a + 11), .ref (a + 13), .ref (a + 15), .ref (a + 17), .ref (a + 19), .ref (a + 21), .ref (a + 23), .ref (a + 25), .ref (a + 28), .ref (a + 37), .null]))) (a + 71) (.inr (2, [.null, .int 0]))) _ _ := hS46
  refine lv_dup hx hb d_Be_init_188 rfl ?_
  refine lv_bipush (v := 9) hx hb d_Be_init_189 (by decide) ?_
  refine lv_iconst (v := 0) hx hb d_Be_init_191 (by decide) ?_
  refine pw_callI X hS46 (As := [.int 9, .int 0]) (rest := [.ref (a + 71), .ref a]) (c_Py_init l K (pw_up (pw_up f15 (a) (.inr (4, [.ref (a + 1), .ref (a + 3), .ref (a + 5), .ref (a + 7), .ref (a + 9), .ref (a + 11), .ref (a + 13), .ref (a + 15), .ref (a + 17), .ref (a + 19), .ref (a + 21), .ref (a + 23), .ref (a + 25), .ref (a + 28), .ref (a + 37), .null]))) (a + 71) (.inr (2, [.null, .int 0]))) (a + 71) 9 48 0 (by omega) (by decide) (pw_up_self _ _ _)) hz46 w_cd_Py_init w_ini_Py w_ml_Be_71 w_im_Py_init rfl hd_Py_init rfl hl.1 (Nat.le_of_ble_eq_true rfl) d_Be_init_192 ⟨Nat.le_of_ble_eq_true rfl, Nat.le_of_ble_eq_true rfl⟩ ⟨show 71 + 19 ≤ 90 by omega, show 5350 + 1476 ≤ 7000 by omega⟩ (fun v f16 H47 lc47 hp hS47 => ?_)
  refine W.cs (cells' := 90) (slots' := 6826) rfl rfl ?_
  clear hS46 hz46
  obtain ⟨rfl, hz47, hk16, hN16⟩ := hp
  have hA16_0 : f16 (a) = some (.inr (4, [.ref (a + 1), .ref (a + 3), .ref (a + 5), .ref (a + 7), .ref (a + 9), .ref (a + 11), .ref (a + 13), .ref (a + 15), .ref (a + 17), .ref (a + 19), .ref (a + 21), .ref (a + 23), .ref (a + 25), .ref (a + 28), .ref (a + 37), .null])) := (hk16 _ (by omega)).trans ((pw_up_ne (by omega)).trans (pw_up_self _ _ _))
  have hN1 := hN1.mv (f' := f16) (fun q h1 h2 => (hk16 q (by omega)).trans (pw_n2 (by omega) (by omega)))
  have hN2 := hN2.mv (f' := f16) (fun q h1 h2 => (hk16 q (by omega)).trans (pw_n2 (by omega) (by omega)))
  have hN3 := hN3.mv (f' := f16) (fun q h1 h2 => (hk16 q (by omega)).trans (pw_n2 (by omega) (by omega)))
  have hN4 := hN4.mv (f' := f16) (fun q h1 h2 => (hk16 q (by omega)).trans (pw_n2 (by omega) (by omega)))
  have hN5 := hN5.mv (f' := f16) (fun q h1 h2 => (hk16 q (by omega)).trans (pw_n2 (by omega) (by omega)))
  have hN6 := hN6.mv (f' := f16) (fun q h1 h2 => (hk16 q (by omega)).trans (pw_n2 (by omega) (by omega)))
  have hN7 := hN7.mv (f' := f16) (fun q h1 h2 => (hk16 q (by omega)).trans (pw_n2 (by omega) (by omega)))
  have hN8 := hN8.mv (f' := f16) (fun q h1 h2 => (hk16 q (by omega)).trans (pw_n2 (by omega) (by omega)))
  have hN9 := hN9.mv (f' := f16) (fun q h1 h2 => (hk16 q (by omega)).trans (pw_n2 (by omega) (by omega)))
  have hN10 := hN10.mv (f' := f16) (fun q h1 h2 => (hk16 q (by omega)).trans (pw_n2 (by omega) (by omega)))
  have hN11 := hN11.mv (f' := f16) (fun q h1 h2 => (hk16 q (by omega)).trans (pw_n2 (by omega) (by omega)))
  have hN12 := hN12.mv (f' := f16) (fun q h1 h2 => (hk16 q (by omega)).trans (pw_n2 (by omega) (by omega)))
  have hN13 := hN13.mv (f' := f16) (fun q h1 h2 => (hk16 q (by omega)).trans (pw_n2 (by omega) (by omega)))
  have hN14 := hN14.mv (f' := f16) (fun q h1 h2 => (hk16 q (by omega)).trans (pw_n2 (by omega) (by omega)))
  have hN15 := hN15.mv (f' := f16) (fun q h1 h2 => (hk16 q (by omega)).trans (pw_n2 (by omega) (by omega)))
  have hfr16 : ∀ q, q < a → f16 q = f q := fun q hq => (hk16 q (by omega)).trans ((pw_n2 (by omega) (by omega)).trans (hfr15 q hq))
  replace hz47 : _ = a + 91 := hz47
  clear hk16 hfr15 hA15_0
  refine pw_putF X hS47 (v := .ref (a + 71)) (hA16_0) pc_Be 15 (by decide) w_fl_Be_78 rfl rfl hin rfl rfl rfl (Nat.le_of_ble_eq_true rfl) d_Be_init_195 (fun H48 lc48 hy48 hS48 => ?_)
  have hz48 := hy48.trans hz47; clear hy48 hS47 hz47
  replace hS48 : pw_S K (pw_up f16 (a) (.inr (4, [.ref (a + 1), .ref (a + 3), .ref (a + 5), .ref (a + 7), .ref (a + 9), .ref (a + 11), .ref (a + 13), .ref (a + 15), .ref (a + 17), .ref (a + 19), .ref (a + 21), .ref (a + 23), .ref (a + 25), .ref (a + 28), .ref (a + 37), .ref (a + 71)]))) _ _ := hS48
  replace hN1 := hN1.mv (f' := pw_up f16 (a) (.inr (4, [.ref (a + 1), .ref (a + 3), .ref (a + 5), .ref (a + 7), .ref (a + 9), .ref (a + 11), .ref (a + 13), .ref (a + 15), .ref (a + 17), .ref (a + 19), .ref (a + 21), .ref (a + 23), .ref (a + 25), .ref (a + 28), .ref (a + 37), .ref (a + 71)]))) (fun q h1 h2 => (pw_n1 (by omega)))
  replace hN2 := hN2.mv (f' := pw_up f16 (a) (.inr (4, [.ref (a + 1), .ref (a + 3), .ref (a + 5), .ref (a + 7), .ref (a + 9), .ref (a + 11), .ref (a + 13), .ref (a + 15), .ref (a + 17), .ref (a + 19), .ref (a + 21), .ref (a + 23), .ref (a + 25), .ref (a + 28), .ref (a + 37), .ref (a + 71)]))) (fun q h1 h2 => (pw_n1 (by omega)))
  replace hN3 := hN3.mv (f' := pw_up f16 (a) (.inr (4, [.ref (a + 1), .ref (a + 3), .ref (a + 5), .ref (a + 7), .ref (a + 9), .ref (a + 11), .ref (a + 13), .ref (a + 15), .ref (a + 17), .ref (a + 19), .ref (a + 21), .ref (a + 23), .ref (a + 25), .ref (a + 28), .ref (a + 37), .ref (a + 71)]))) (fun q h1 h2 => (pw_n1 (by omega)))
  replace hN4 := hN4.mv (f' := pw_up f16 (a) (.inr (4, [.ref (a + 1), .ref (a + 3), .ref (a + 5), .ref (a + 7), .ref (a + 9), .ref (a + 11), .ref (a + 13), .ref (a + 15), .ref (a + 17), .ref (a + 19), .ref (a + 21), .ref (a + 23), .ref (a + 25), .ref (a + 28), .ref (a + 37), .ref (a + 71)]))) (fun q h1 h2 => (pw_n1 (by omega)))
  replace hN5 := hN5.mv (f' := pw_up f16 (a) (.inr (4, [.ref (a + 1), .ref (a + 3), .ref (a + 5), .ref (a + 7), .ref (a + 9), .ref (a + 11), .ref (a + 13), .ref (a + 15), .ref (a + 17), .ref (a + 19), .ref (a + 21), .ref (a + 23), .ref (a + 25), .ref (a + 28), .ref (a + 37), .ref (a + 71)]))) (fun q h1 h2 => (pw_n1 (by omega)))
  replace hN6 := hN6.mv (f' := pw_up f16 (a) (.inr (4, [.ref (a + 1), .ref (a + 3), .ref (a + 5), .ref (a + 7), .ref (a + 9), .ref (a + 11), .ref (a + 13), .ref (a + 15), .ref (a + 17), .ref (a + 19), .ref (a + 21), .ref (a + 23), .ref (a + 25), .ref (a + 28), .ref (a + 37), .ref (a + 71)]))) (fun q h1 h2 => (pw_n1 (by omega)))
  replace hN7 := hN7.mv (f' := pw_up f16 (a) (.inr (4, [.ref (a + 1), .ref (a + 3), .ref (a + 5), .ref (a + 7), .ref (a + 9), .ref (a + 11), .ref (a + 13), .ref (a + 15), .ref (a + 17), .ref (a + 19), .ref (a + 21), .ref (a + 23), .ref (a + 25), .ref (a + 28), .ref (a + 37), .ref (a + 71)]))) (fun q h1 h2 => (pw_n1 (by omega)))
  replace hN8 := hN8.mv (f' := pw_up f16 (a) (.inr (4, [.ref (a + 1), .ref (a + 3), .ref (a + 5), .ref (a + 7), .ref (a + 9), .ref (a + 11), .ref (a + 13), .ref (a + 15), .ref (a + 17), .ref (a + 19), .ref (a + 21), .ref (a + 23), .ref (a + 25), .ref (a + 28), .ref (a + 37), .ref (a + 71)]))) (fun q h1 h2 => (pw_n1 (by omega)))
  replace hN9 := hN9.mv (f' := pw_up f16 (a) (.inr (4, [.ref (a + 1), .ref (a + 3), .ref (a + 5), .ref (a + 7), .ref (a + 9), .ref (a + 11), .ref (a + 13), .ref (a + 15), .ref (a + 17), .ref (a + 19), .ref (a + 21), .ref (a + 23), .ref (a + 25), .ref (a + 28), .ref (a + 37), .ref (a + 71)]))) (fun q h1 h2 => (pw_n1 (by omega)))
  replace hN10 := hN10.mv (f' := pw_up f16 (a) (.inr (4, [.ref (a + 1), .ref (a + 3), .ref (a + 5), .ref (a + 7), .ref (a + 9), .ref (a + 11), .ref (a + 13), .ref (a + 15), .ref (a + 17), .ref (a + 19), .ref (a + 21), .ref (a + 23), .ref (a + 25), .ref (a + 28), .ref (a + 37), .ref (a + 71)]))) (fun q h1 h2 => (pw_n1 (by omega)))
  replace hN11 := hN11.mv (f' := pw_up f16 (a) (.inr (4, [.ref (a + 1), .ref (a + 3), .ref (a + 5), .ref (a + 7), .ref (a + 9), .ref (a + 11), .ref (a + 13), .ref (a + 15), .ref (a + 17), .ref (a + 19), .ref (a + 21), .ref (a + 23), .ref (a + 25), .ref (a + 28), .ref (a + 37), .ref (a + 71)]))) (fun q h1 h2 => (pw_n1 (by omega)))
  replace hN12 := hN12.mv (f' := pw_up f16 (a) (.inr (4, [.ref (a + 1), .ref (a + 3), .ref (a + 5), .ref (a + 7), .ref (a + 9), .ref (a + 11), .ref (a + 13), .ref (a + 15), .ref (a + 17), .ref (a + 19), .ref (a + 21), .ref (a + 23), .ref (a + 25), .ref (a + 28), .ref (a + 37), .ref (a + 71)]))) (fun q h1 h2 => (pw_n1 (by omega)))
  replace hN13 := hN13.mv (f' := pw_up f16 (a) (.inr (4, [.ref (a + 1), .ref (a + 3), .ref (a + 5), .ref (a + 7), .ref (a + 9), .ref (a + 11), .ref (a + 13), .ref (a + 15), .ref (a + 17), .ref (a + 19), .ref (a + 21), .ref (a + 23), .ref (a + 25), .ref (a + 28), .ref (a + 37), .ref (a + 71)]))) (fun q h1 h2 => (pw_n1 (by omega)))
  replace hN14 := hN14.mv (f' := pw_up f16 (a) (.inr (4, [.ref (a + 1), .ref (a + 3), .ref (a + 5), .ref (a + 7), .ref (a + 9), .ref (a + 11), .ref (a + 13), .ref (a + 15), .ref (a + 17), .ref (a + 19), .ref (a + 21), .ref (a + 23), .ref (a + 25), .ref (a + 28), .ref (a + 37), .ref (a + 71)]))) (fun q h1 h2 => (pw_n1 (by omega)))
  replace hN15 := hN15.mv (f' := pw_up f16 (a) (.inr (4, [.ref (a + 1), .ref (a + 3), .ref (a + 5), .ref (a + 7), .ref (a + 9), .ref (a + 11), .ref (a + 13), .ref (a + 15), .ref (a + 17), .ref (a + 19), .ref (a + 21), .ref (a + 23), .ref (a + 25), .ref (a + 28), .ref (a + 37), .ref (a + 71)]))) (fun q h1 h2 => (pw_n1 (by omega)))
  replace hN16 := hN16.mv (f' := pw_up f16 (a) (.inr (4, [.ref (a + 1), .ref (a + 3), .ref (a + 5), .ref (a + 7), .ref (a + 9), .ref (a + 11), .ref (a + 13), .ref (a + 15), .ref (a + 17), .ref (a + 19), .ref (a + 21), .ref (a + 23), .ref (a + 25), .ref (a + 28), .ref (a + 37), .ref (a + 71)]))) (fun q h1 h2 => (pw_n1 (by omega)))
  have hall : ∀ k, k < 12 → zNu K (pw_up f16 (a) (.inr (4, [.ref (a + 1), .ref (a + 3), .ref (a + 5), .ref (a + 7), .ref (a + 9), .ref (a + 11), .ref (a + 13), .ref (a + 15), .ref (a + 17), .ref (a + 19), .ref (a + 21), .ref (a + 23), .ref (a + 25), .ref (a + 28), .ref (a + 37), .ref (a + 71)]))) (a + 1 + 2 * k) 160 := by
    intro k hk
    have hc : k = 0 ∨ k = 1 ∨ k = 2 ∨ k = 3 ∨ k = 4 ∨ k = 5 ∨ k = 6 ∨ k = 7 ∨ k = 8 ∨ k = 9 ∨ k = 10 ∨ k = 11 := by omega
    rcases hc with rfl | rfl | rfl | rfl | rfl | rfl | rfl | rfl | rfl | rfl | rfl | rfl
    · exact hN1
    · exact hN2
    · exact hN3
    · exact hN4
    · exact hN5
    · exact hN6
    · exact hN7
    · exact hN8
    · exact hN9
    · exact hN10
    · exact hN11
    · exact hN12
  exact pw_vret X hS48 hr ⟨rfl, hz48, fun q hq => ((pw_n1 (by omega)).trans (hfr16 q hq)), (pw_up_self _ _ _), hall, hN13, hN14, hN15, hN16⟩ (show 90 ≤ 90 by omega) (show 6826 ≤ 7000 by omega) d_Be_init_198
