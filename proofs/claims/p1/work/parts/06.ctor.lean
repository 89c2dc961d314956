theorem d_Nu_init_0 : decode b_Nu_init 0 = .ok (.aload_n 0, 1) := by decide +kernel
theorem d_Nu_init_1 : decode b_Nu_init 1 = .ok (.invokespecial 1, 3) := by decide +kernel
theorem d_Nu_init_4 : decode b_Nu_init 4 = .ok (.aload_n 0, 1) := by decide +kernel
theorem d_Nu_init_5 : decode b_Nu_init 5 = .ok (.iload_n 1, 1) := by decide +kernel
theorem d_Nu_init_6 : decode b_Nu_init 6 = .ok (.ifCond .eq 9, 3) := by decide +kernel
theorem d_Nu_init_9 : decode b_Nu_init 9 = .ok (.sipush 160, 3) := by decide +kernel
theorem d_Nu_init_12 : decode b_Nu_init 12 = .ok (.goto 5, 3) := by decide +kernel
theorem d_Nu_init_15 : decode b_Nu_init 15 = .ok (.bipush 48, 2) := by decide +kernel
theorem d_Nu_init_17 : decode b_Nu_init 17 = .ok (.newarray .int, 2) := by decide +kernel
theorem d_Nu_init_19 : decode b_Nu_init 19 = .ok (.putfield 9, 3) := by decide +kernel
theorem d_Nu_init_22 : decode b_Nu_init 22 = .ok (.return_, 1) := by decide +kernel
set_option maxHeartbeats 4000000 in
set_option maxRecDepth 100000 in
theorem c_Nu_init (l : Launch) (K : pw_K) (f : pw_F) (a : Nat) (w : Int32) (n : Nat) (hn : (w = 0 → n = 48) ∧ (¬ w = 0 → n = 160)) (ha : f a = some (.inr (0, [.null, .int 0, .int 0]))) : pw_C l K y_Nu_init b_Nu_init 2 none (rmk 2 1 n) f [.ref a, .int w] (a + 1) (fun v f' z => v = none ∧ z = a + 2 ∧ (∀ q, q < a → f' q = f q) ∧ zNu K f' a n) := by
  refine pw_start (by decide) (Nat.le_of_ble_eq_true rfl) ?_
  intro p e s m args below meth c ls X hr hin hz hS hl
  have hl : lv_has ls 2 [(0, .ref a), (1, .int w)] := hl
  have hx := X.1
  have hb := X.2.1
  generalize s.heap = H0 at hz hS ⊢
  generalize ([] : List Loc) = lc0 at hS ⊢
  refine lv_aload_n hx hb d_Nu_init_0 rfl (lv_at hl 0 rfl) ?_
  refine pw_obj X w_ml_Nu_1 hl.1 d_Nu_init_1 ⟨Nat.le_of_ble_eq_true rfl, Nat.le_of_ble_eq_true rfl⟩ rfl ?_
  refine lv_aload_n hx hb d_Nu_init_4 rfl (lv_at hl 0 rfl) ?_
  refine lv_iload_n hx hb d_Nu_init_5 rfl (lv_at hl 1 rfl) ?_
  refine lv_if_eq (tgt := 15) hx hb d_Nu_init_6 (by decide) (fun cw => ?_) (fun cw => ?_)
  · have en : n = 48 := hn.1 cw
    subst en
    refine lv_bipush (v := 48) hx hb d_Nu_init_15 (by decide) ?_
    refine pw_newa X hS (ty := .int) rfl w_ac_int 0 rfl rfl (N' := 48) (a0 := (48, .inl (fun _ => 0))) (fun _ => rfl) (by decide) (by decide) (by decide) (show 0 + 1 ≤ 1 by omega) (show 0 + 48 ≤ 48 by omega) d_Nu_init_17 hz (fun H1 hz1 hS1 => ?_)
    clear hS hz
    refine W.cs (cells' := 1) (slots' := 48) rfl rfl ?_
    replace hS1 : pw_S K (pw_up f (a + 1) (.inl (pE K 0, 48, .inl (fun _ => 0)))) _ _ := hS1
    refine pw_putF X hS1 (v := .ref (a + 1)) ((pw_up_ne (by omega)).trans (ha)) pc_Nu 0 (by decide) w_fl_Nu_9 rfl rfl hin rfl rfl rfl (Nat.le_of_ble_eq_true rfl) d_Nu_init_19 (fun H2 lc2 hy2 hS2 => ?_)
    have hz2 := hy2.trans hz1; clear hy2 hS1 hz1
    replace hS2 : pw_S K (pw_up (pw_up f (a + 1) (.inl (pE K 0, 48, .inl (fun _ => 0)))) (a) (.inr (0, [.ref (a + 1), .int 0, .int 0]))) _ _ := hS2
    exact pw_vret X hS2 hr ⟨rfl, hz2, fun q hq => pw_n2 (by omega) (by omega), pw_up_self _ _ _, (pw_up_ne (by omega)).trans (pw_up_self _ _ _)⟩ (show 1 ≤ 1 by omega) (show 48 ≤ 48 by omega) d_Nu_init_22
  · have en : n = 160 := hn.2 cw
    subst en
    refine lv_sipush (v := 160) hx hb d_Nu_init_9 (by decide) ?_
    refine lv_goto (tgt := 17) hx hb d_Nu_init_12 (by decide) ?_
    refine pw_newa X hS (ty := .int) rfl w_ac_int 0 rfl rfl (N' := 160) (a0 := (160, .inl (fun _ => 0))) (fun _ => rfl) (by decide) (by decide) (by decide) (show 0 + 1 ≤ 1 by omega) (show 0 + 160 ≤ 160 by omega) d_Nu_init_17 hz (fun H1 hz1 hS1 => ?_)
    clear hS hz
    refine W.cs (cells' := 1) (slots' := 160) rfl rfl ?_
    replace hS1 : pw_S K (pw_up f (a + 1) (.inl (pE K 0, 160, .inl (fun _ => 0)))) _ _ := hS1
    refine pw_putF X hS1 (v := .ref (a + 1)) ((pw_up_ne (by omega)).trans (ha)) pc_Nu 0 (by decide) w_fl_Nu_9 rfl rfl hin rfl rfl rfl (Nat.le_of_ble_eq_true rfl) d_Nu_init_19 (fun H2 lc2 hy2 hS2 => ?_)
    have hz2 := hy2.trans hz1; clear hy2 hS1 hz1
    replace hS2 : pw_S K (pw_up (pw_up f (a + 1) (.inl (pE K 0, 160, .inl (fun _ => 0)))) (a) (.inr (0, [.ref (a + 1), .int 0, .int 0]))) _ _ := hS2
    exact pw_vret X hS2 hr ⟨rfl, hz2, fun q hq => pw_n2 (by omega) (by omega), pw_up_self _ _ _, (pw_up_ne (by omega)).trans (pw_up_self _ _ _)⟩ (show 1 ≤ 1 by omega) (show 160 ≤ 160 by omega) d_Nu_init_22
theorem d_Pt_init_0 : decode b_Pt_init 0 = .ok (.aload_n 0, 1) := by decide +kernel
theorem d_Pt_init_1 : decode b_Pt_init 1 = .ok (.invokespecial 1, 3) := by decide +kernel
theorem d_Pt_init_4 : decode b_Pt_init 4 = .ok (.aload_n 0, 1) := by decide +kernel
theorem d_Pt_init_5 : decode b_Pt_init 5 = .ok (.new 7, 3) := by decide +kernel
theorem d_Pt_init_8 : decode b_Pt_init 8 = .ok (.dup, 1) := by decide +kernel
theorem d_Pt_init_9 : decode b_Pt_init 9 = .ok (.iconst 0, 1) := by decide +kernel
theorem d_Pt_init_10 : decode b_Pt_init 10 = .ok (.invokespecial 9, 3) := by decide +kernel
theorem d_Pt_init_13 : decode b_Pt_init 13 = .ok (.putfield 12, 3) := by decide +kernel
theorem d_Pt_init_16 : decode b_Pt_init 16 = .ok (.return_, 1) := by decide +kernel
set_option maxHeartbeats 4000000 in
set_option maxRecDepth 100000 in
theorem c_Pt_init (l : Launch) (K : pw_K) (f : pw_F) (a : Nat) (ha : f a = some (.inr (1, [.null, .int 0]))) : pw_C l K y_Pt_init b_Pt_init 1 none (rmk 3 2 60) f [.ref a] (a + 1) (fun v f' z => v = none ∧ z = a + 3 ∧ (∀ q, q < a → f' q = f q) ∧ zPt K f' a) := by
  refine pw_start (by decide) (Nat.le_of_ble_eq_true rfl) ?_
  intro p e s m args below meth c ls X hr hin hz hS hl
  have hl : lv_has ls 1 [(0, .ref a)] := hl
  have hx := X.1
  have hb := X.2.1
  generalize s.heap = H0 at hz hS ⊢
  generalize ([] : List Loc) = lc0 at hS ⊢
  refine lv_aload_n hx hb d_Pt_init_0 rfl (lv_at hl 0 rfl) ?_
  refine pw_obj X w_ml_Pt_1 hl.1 d_Pt_init_1 ⟨Nat.le_of_ble_eq_true rfl, Nat.le_of_ble_eq_true rfl⟩ rfl ?_
  refine lv_aload_n hx hb d_Pt_init_4 rfl (lv_at hl 0 rfl) ?_
  refine pw_new X hS pc_Nu w_cl_Pt_7 w_ins_Nu w_ini_Nu (fs := [.null, .int 0, .int 0]) (by decide) (show 0 + 1 ≤ 2 by omega) (show 0 + 3 ≤ 60 by omega) d_Pt_init_5 hz (fun H1 hz1 hS1 => ?_)
  clear hS hz
  refine W.cs (cells' := 1) (slots' := 3) rfl rfl ?_
  replace hS1 : pw_S K (pw_up f (a + 1) (.inr (0, [.null, .int 0, .int 0]))) _ _ := hS1
  refine lv_dup hx hb d_Pt_init_8 rfl ?_
  refine lv_iconst (v := 0) hx hb d_Pt_init_9 (by decide) ?_
  refine pw_callI X hS1 (As := [.int 0]) (rest := [.ref (a + 1), .ref a]) (c_Nu_init l K (pw_up f (a + 1) (.inr (0, [.null, .int 0, .int 0]))) (a + 1) 0 48 (by decide) (pw_up_self _ _ _)) hz1 w_cd_Nu_init w_ini_Nu w_ml_Pt_9 w_im_Nu_init rfl hd_Nu_init rfl hl.1 (Nat.le_of_ble_eq_true rfl) d_Pt_init_10 ⟨Nat.le_of_ble_eq_true rfl, Nat.le_of_ble_eq_true rfl⟩ ⟨show 1 + 1 ≤ 2 by omega, show 3 + 48 ≤ 60 by omega⟩ (fun v f1 H2 lc2 hp hS2 => ?_)
  refine W.cs (cells' := 2) (slots' := 51) rfl rfl ?_
  clear hS1 hz1
  obtain ⟨rfl, hz2, hk1, hN1⟩ := hp
  have hA1_0 : f1 (a) = some (.inr (1, [.null, .int 0])) := (hk1 _ (by omega)).trans ((pw_up_ne (by omega)).trans (ha))
  have hfr1 : ∀ q, q < a → f1 q = f q := fun q hq => (hk1 q (by omega)).trans (pw_n1 (by omega))
  replace hz2 : _ = a + 3 := hz2
  clear hk1
  refine pw_putF X hS2 (v := .ref (a + 1)) (hA1_0) pc_Pt 0 (by decide) w_fl_Pt_12 rfl rfl hin rfl rfl rfl (Nat.le_of_ble_eq_true rfl) d_Pt_init_13 (fun H3 lc3 hy3 hS3 => ?_)
  have hz3 := hy3.trans hz2; clear hy3 hS2 hz2
  replace hS3 : pw_S K (pw_up f1 (a) (.inr (1, [.ref (a + 1), .int 0]))) _ _ := hS3
  have hN1 := hN1.mv (f' := pw_up f1 (a) (.inr (1, [.ref (a + 1), .int 0]))) (fun q h1 h2 => (pw_n1 (by omega)))
  exact pw_vret X hS3 hr ⟨rfl, hz3, fun q hq => ((pw_n1 (by omega)).trans (hfr1 q hq)), (pw_up_self _ _ _), hN1⟩ (show 2 ≤ 2 by omega) (show 51 ≤ 60 by omega) d_Pt_init_16
theorem d_Ro_init_0 : decode b_Ro_init 0 = .ok (.aload_n 0, 1) := by decide +kernel
theorem d_Ro_init_1 : decode b_Ro_init 1 = .ok (.invokespecial 1, 3) := by decide +kernel
theorem d_Ro_init_4 : decode b_Ro_init 4 = .ok (.aload_n 0, 1) := by decide +kernel
theorem d_Ro_init_5 : decode b_Ro_init 5 = .ok (.new 7, 3) := by decide +kernel
theorem d_Ro_init_8 : decode b_Ro_init 8 = .ok (.dup, 1) := by decide +kernel
theorem d_Ro_init_9 : decode b_Ro_init 9 = .ok (.iconst 0, 1) := by decide +kernel
theorem d_Ro_init_10 : decode b_Ro_init 10 = .ok (.invokespecial 9, 3) := by decide +kernel
theorem d_Ro_init_13 : decode b_Ro_init 13 = .ok (.putfield 12, 3) := by decide +kernel
theorem d_Ro_init_16 : decode b_Ro_init 16 = .ok (.return_, 1) := by decide +kernel
set_option maxHeartbeats 4000000 in
set_option maxRecDepth 100000 in
theorem c_Ro_init (l : Launch) (K : pw_K) (f : pw_F) (a : Nat) (ha : f a = some (.inr (6, [.null, .int 0, .int 0, .int 0, .int 0]))) : pw_C l K y_Ro_init b_Ro_init 1 none (rmk 3 2 60) f [.ref a] (a + 1) (fun v f' z => v = none ∧ z = a + 3 ∧ (∀ q, q < a → f' q = f q) ∧ zRo K f' a) := by
  refine pw_start (by decide) (Nat.le_of_ble_eq_true rfl) ?_
  intro p e s m args below meth c ls X hr hin hz hS hl
  have hl : lv_has ls 1 [(0, .ref a)] := hl
  have hx := X.1
  have hb := X.2.1
  generalize s.heap = H0 at hz hS ⊢
  generalize ([] : List Loc) = lc0 at hS ⊢
  refine lv_aload_n hx hb d_Ro_init_0 rfl (lv_at hl 0 rfl) ?_
  refine pw_obj X w_ml_Ro_1 hl.1 d_Ro_init_1 ⟨Nat.le_of_ble_eq_true rfl, Nat.le_of_ble_eq_true rfl⟩ rfl ?_
  refine lv_aload_n hx hb d_Ro_init_4 rfl (lv_at hl 0 rfl) ?_
  refine pw_new X hS pc_Nu w_cl_Ro_7 w_ins_Nu w_ini_Nu (fs := [.null, .int 0, .int 0]) (by decide) (show 0 + 1 ≤ 2 by omega) (show 0 + 3 ≤ 60 by omega) d_Ro_init_5 hz (fun H1 hz1 hS1 => ?_)
  clear hS hz
  refine W.cs (cells' := 1) (slots' := 3) rfl rfl ?_
  replace hS1 : pw_S K (pw_up f (a + 1) (.inr (0, [.null, .int 0, .int 0]))) _ _ := hS1
  refine lv_dup hx hb d_Ro_init_8 rfl ?_
  refine lv_iconst (v := 0) hx hb d_Ro_init_9 (by decide) ?_
  refine pw_callI X hS1 (As := [.int 0]) (rest := [.ref (a + 1), .ref a]) (c_Nu_init l K (pw_up f (a + 1) (.inr (0, [.null, .int 0, .int 0]))) (a + 1) 0 48 (by decide) (pw_up_self _ _ _)) hz1 w_cd_Nu_init w_ini_Nu w_ml_Ro_9 w_im_Nu_init rfl hd_Nu_init rfl hl.1 (Nat.le_of_ble_eq_true rfl) d_Ro_init_10 ⟨Nat.le_of_ble_eq_true rfl, Nat.le_of_ble_eq_true rfl⟩ ⟨show 1 + 1 ≤ 2 by omega, show 3 + 48 ≤ 60 by omega⟩ (fun v f1 H2 lc2 hp hS2 => ?_)
  refine W.cs (cells' := 2) (slots' := 51) rfl rfl ?_
  clear hS1 hz1
  obtain ⟨rfl, hz2, hk1, hN1⟩ := hp
  have hA1_0 : f1 (a) = some (.inr (6, [.null, .int 0, .int 0, .int 0, .int 0])) := (hk1 _ (by omega)).trans ((pw_up_ne (by omega)).trans (ha))
  have hfr1 : ∀ q, q < a → f1 q = f q := fun q hq => (hk1 q (by omega)).trans (pw_n1 (by omega))
  replace hz2 : _ = a + 3 := hz2
  clear hk1
  refine pw_putF X hS2 (v := .ref (a + 1)) (hA1_0) pc_Ro 0 (by decide) w_fl_Ro_12 rfl rfl hin rfl rfl rfl (Nat.le_of_ble_eq_true rfl) d_Ro_init_13 (fun H3 lc3 hy3 hS3 => ?_)
  have hz3 := hy3.trans hz2; clear hy3 hS2 hz2
  replace hS3 : pw_S K (pw_up f1 (a) (.inr (6, [.ref (a + 1), .int 0, .int 0, .int 0, .int 0]))) _ _ := hS3
  have hN1 := hN1.mv (f' := pw_up f1 (a) (.inr (6, [.ref (a + 1), .int 0, .int 0, .int 0, .int 0]))) (fun q h1 h2 => (pw_n1 (by omega)))
  exact pw_vret X hS3 hr ⟨rfl, hz3, fun q hq => ((pw_n1 (by omega)).trans (hfr1 q hq)), (pw_up_self _ _ _), hN1⟩ (show 2 ≤ 2 by omega) (show 51 ≤ 60 by omega) d_Ro_init_16
theorem d_Di_init_0 : decode b_Di_init 0 = .ok (.aload_n 0, 1) := by decide +kernel
theorem d_Di_init_1 : decode b_Di_init 1 = .ok (.invokespecial 1, 3) := by decide +kernel
theorem d_Di_init_4 : decode b_Di_init 4 = .ok (.aload_n 0, 1) := by decide +kernel
theorem d_Di_init_5 : decode b_Di_init 5 = .ok (.new 7, 3) := by decide +kernel
theorem d_Di_init_8 : decode b_Di_init 8 = .ok (.dup, 1) := by decide +kernel
theorem d_Di_init_9 : decode b_Di_init 9 = .ok (.iconst 1, 1) := by decide +kernel
theorem d_Di_init_10 : decode b_Di_init 10 = .ok (.invokespecial 9, 3) := by decide +kernel
theorem d_Di_init_13 : decode b_Di_init 13 = .ok (.putfield 12, 3) := by decide +kernel
theorem d_Di_init_16 : decode b_Di_init 16 = .ok (.aload_n 0, 1) := by decide +kernel
theorem d_Di_init_17 : decode b_Di_init 17 = .ok (.new 7, 3) := by decide +kernel
theorem d_Di_init_20 : decode b_Di_init 20 = .ok (.dup, 1) := by decide +kernel
theorem d_Di_init_21 : decode b_Di_init 21 = .ok (.iconst 1, 1) := by decide +kernel
theorem d_Di_init_22 : decode b_Di_init 22 = .ok (.invokespecial 9, 3) := by decide +kernel
theorem d_Di_init_25 : decode b_Di_init 25 = .ok (.putfield 18, 3) := by decide +kernel
theorem d_Di_init_28 : decode b_Di_init 28 = .ok (.aload_n 0, 1) := by decide +kernel
theorem d_Di_init_29 : decode b_Di_init 29 = .ok (.new 7, 3) := by decide +kernel
theorem d_Di_init_32 : decode b_Di_init 32 = .ok (.dup, 1) := by decide +kernel
theorem d_Di_init_33 : decode b_Di_init 33 = .ok (.iconst 1, 1) := by decide +kernel
theorem d_Di_init_34 : decode b_Di_init 34 = .ok (.invokespecial 9, 3) := by decide +kernel
theorem d_Di_init_37 : decode b_Di_init 37 = .ok (.putfield 21, 3) := by decide +kernel
theorem d_Di_init_40 : decode b_Di_init 40 = .ok (.aload_n 0, 1) := by decide +kernel
theorem d_Di_init_41 : decode b_Di_init 41 = .ok (.new 7, 3) := by decide +kernel
theorem d_Di_init_44 : decode b_Di_init 44 = .ok (.dup, 1) := by decide +kernel
theorem d_Di_init_45 : decode b_Di_init 45 = .ok (.iconst 1, 1) := by decide +kernel
theorem d_Di_init_46 : decode b_Di_init 46 = .ok (.invokespecial 9, 3) := by decide +kernel
theorem d_Di_init_49 : decode b_Di_init 49 = .ok (.putfield 24, 3) := by decide +kernel
theorem d_Di_init_52 : decode b_Di_init 52 = .ok (.return_, 1) := by decide +kernel
set_option maxHeartbeats 4000000 in
set_option maxRecDepth 100000 in
theorem c_Di_init (l : Launch) (K : pw_K) (f : pw_F) (a : Nat) (ha : f a = some (.inr (3, [.null, .null, .null, .null]))) : pw_C l K y_Di_init b_Di_init 1 none (rmk 3 8 700) f [.ref a] (a + 1) (fun v f' z => v = none ∧ z = a + 9 ∧ (∀ q, q < a → f' q = f q) ∧ zDi K f' a) := by
  refine pw_start (by decide) (Nat.le_of_ble_eq_true rfl) ?_
  intro p e s m args below meth c ls X hr hin hz hS hl
  have hl : lv_has ls 1 [(0, .ref a)] := hl
  have hx := X.1
  have hb := X.2.1
  generalize s.heap = H0 at hz hS ⊢
  generalize ([] : List Loc) = lc0 at hS ⊢
  refine lv_aload_n hx hb d_Di_init_0 rfl (lv_at hl 0 rfl) ?_
  refine pw_obj X w_ml_Di_1 hl.1 d_Di_init_1 ⟨Nat.le_of_ble_eq_true rfl, Nat.le_of_ble_eq_true rfl⟩ rfl ?_
  refine lv_aload_n hx hb d_Di_init_4 rfl (lv_at hl 0 rfl) ?_
  refine pw_new X hS pc_Nu w_cl_Di_7 w_ins_Nu w_ini_Nu (fs := [.null, .int 0, .int 0]) (by decide) (show 0 + 1 ≤ 8 by omega) (show 0 + 3 ≤ 700 by omega) d_Di_init_5 hz (fun H1 hz1 hS1 => ?_)
  clear hS hz
  refine W.cs (cells' := 1) (slots' := 3) rfl rfl ?_
  replace hS1 : pw_S K (pw_up f (a + 1) (.inr (0, [.null, .int 0, .int 0]))) _ _ := hS1
  refine lv_dup hx hb d_Di_init_8 rfl ?_
  refine lv_iconst (v := 1) hx hb d_Di_init_9 (by decide) ?_
  refine pw_callI X hS1 (As := [.int 1]) (rest := [.ref (a + 1), .ref a]) (c_Nu_init l K (pw_up f (a + 1) (.inr (0, [.null, .int 0, .int 0]))) (a + 1) 1 160 (by decide) (pw_up_self _ _ _)) hz1 w_cd_Nu_init w_ini_Nu w_ml_Di_9 w_im_Nu_init rfl hd_Nu_init rfl hl.1 (Nat.le_of_ble_eq_true rfl) d_Di_init_10 ⟨Nat.le_of_ble_eq_true rfl, Nat.le_of_ble_eq_true rfl⟩ ⟨show 1 + 1 ≤ 8 by omega, show 3 + 160 ≤ 700 by omega⟩ (fun v f1 H2 lc2 hp hS2 => ?_)
  refine W.cs (cells' := 2) (slots' := 163) rfl rfl ?_
  clear hS1 hz1
  obtain ⟨rfl, hz2, hk1, hN1⟩ := hp
  have hA1_0 : f1 (a) = some (.inr (3, [.null, .null, .null, .null])) := (hk1 _ (by omega)).trans ((pw_up_ne (by omega)).trans (ha))
  have hfr1 : ∀ q, q < a → f1 q = f q := fun q hq => (hk1 q (by omega)).trans (pw_n1 (by omega))
  replace hz2 : _ = a + 3 := hz2
  clear hk1
  refine pw_putF X hS2 (v := .ref (a + 1)) (hA1_0) pc_Di 0 (by decide) w_fl_Di_12 rfl rfl hin rfl rfl rfl (Nat.le_of_ble_eq_true rfl) d_Di_init_13 (fun H3 lc3 hy3 hS3 => ?_)
  have hz3 := hy3.trans hz2; clear hy3 hS2 hz2
  replace hS3 : pw_S K (pw_up f1 (a) (.inr (3, [.ref (a + 1), .null, .null, .null]))) _ _ := hS3
  refine lv_aload_n hx hb d_Di_init_16 rfl (lv_at hl 0 rfl) ?_
  refine pw_new X hS3 pc_Nu w_cl_Di_7 w_ins_Nu w_ini_Nu (fs := [.null, .int 0, .int 0]) (by decide) (show 2 + 1 ≤ 8 by omega) (show 163 + 3 ≤ 700 by omega) d_Di_init_17 hz3 (fun H4 hz4 hS4 => ?_)
  clear hS3 hz3
  refine W.cs (cells' := 3) (slots' := 166) rfl rfl ?_
  replace hS4 : pw_S K (pw_up (pw_up f1 (a) (.inr (3, [.ref (a + 1), .null, .null, .null]))) (a + 3) (.inr (0, [.null, .int 0, .int 0]))) _ _ := hS4
  refine lv_dup hx hb d_Di_init_20 rfl ?_
  refine lv_iconst (v := 1) hx hb d_Di_init_21 (by decide) ?_
  refine pw_callI X hS4 (As := [.int 1]) (rest := [.ref (a + 3), .ref a]) (c_Nu_init l K (pw_up (pw_up f1 (a) (.inr (3, [.ref (a + 1), .null, .null, .null]))) (a + 3) (.inr (0, [.null, .int 0, .int 0]))) (a + 3) 1 160 (by decide) (pw_up_self _ _ _)) hz4 w_cd_Nu_init w_ini_Nu w_ml_Di_9 w_im_Nu_init rfl hd_Nu_init rfl hl.1 (Nat.le_of_ble_eq_true rfl) d_Di_init_22 ⟨Nat.le_of_ble_eq_true rfl, Nat.le_of_ble_eq_true rfl⟩ ⟨show 3 + 1 ≤ 8 by omega, show 166 + 160 ≤ 700 by omega⟩ (fun v f2 H5 lc5 hp hS5 => ?_)
  refine W.cs (cells' := 4) (slots' := 326) rfl rfl ?_
  clear hS4 hz4
  obtain ⟨rfl, hz5, hk2, hN2⟩ := hp
  have hA2_0 : f2 (a) = some (.inr (3, [.ref (a + 1), .null, .null, .null])) := (hk2 _ (by omega)).trans ((pw_up_ne (by omega)).trans (pw_up_self _ _ _))
  have hN1 := hN1.mv (f' := f2) (fun q h1 h2 => (hk2 q (by omega)).trans (pw_n2 (by omega) (by omega)))
  have hfr2 : ∀ q, q < a → f2 q = f q := fun q hq => (hk2 q (by omega)).trans ((pw_n2 (by omega) (by omega)).trans (hfr1 q hq))
  replace hz5 : _ = a + 5 := hz5
  clear hk2 hfr1 hA1_0
  refine pw_putF X hS5 (v := .ref (a + 3)) (hA2_0) pc_Di 1 (by decide) w_fl_Di_18 rfl rfl hin rfl rfl rfl (Nat.le_of_ble_eq_true rfl) d_Di_init_25 (fun H6 lc6 hy6 hS6 => ?_)
  have hz6 := hy6.trans hz5; clear hy6 hS5 hz5
  replace hS6 : pw_S K (pw_up f2 (a) (.inr (3, [.ref (a + 1), .ref (a + 3), .null, .null]))) _ _ := hS6
  refine lv_aload_n hx hb d_Di_init_28 rfl (lv_at hl 0 rfl) ?_
  refine pw_new X hS6 pc_Nu w_cl_Di_7 w_ins_Nu w_ini_Nu (fs := [.null, .int 0, .int 0]) (by decide) (show 4 + 1 ≤ 8 by omega) (show 326 + 3 ≤ 700 by omega) d_Di_init_29 hz6 (fun H7 hz7 hS7 => ?_)
  clear hS6 hz6
  refine W.cs (cells' := 5) (slots' := 329) rfl rfl ?_
  replace hS7 : pw_S K (pw_up (pw_up f2 (a) (.inr (3, [.ref (a + 1), .ref (a + 3), .null, .null]))) (a + 5) (.inr (0, [.null, .int 0, .int 0]))) _ _ := hS7
  refine lv_dup hx hb d_Di_init_32 rfl ?_
  refine lv_iconst (v := 1) hx hb d_Di_init_33 (by decide) ?_
  refine pw_callI X hS7 (As := [.int 1]) (rest := [.ref (a + 5), .ref a]) (c_Nu_init l K (pw_up (pw_up f2 (a) (.inr (3, [.ref (a + 1), .ref (a + 3), .null, .null]))) (a + 5) (.inr (0, [.null, .int 0, .int 0]))) (a + 5) 1 160 (by decide) (pw_up_self _ _ _)) hz7 w_cd_Nu_init w_ini_Nu w_ml_Di_9 w_im_Nu_init rfl hd_Nu_init rfl hl.1 (Nat.le_of_ble_eq_true rfl) d_Di_init_34 ⟨Nat.le_of_ble_eq_true rfl, Nat.le_of_ble_eq_true rfl⟩ ⟨show 5 + 1 ≤ 8 by omega, show 329 + 160 ≤ 700 by omega⟩ (fun v f3 H8 lc8 hp hS8 => ?_)
  refine W.cs (cells' := 6) (slots' := 489) rfl rfl ?_
  clear hS7 hz7
  obtain ⟨rfl, hz8, hk3, hN3⟩ := hp
  have hA3_0 : f3 (a) = some (.inr (3, [.ref (a + 1), .ref (a + 3), .null, .null])) := (hk3 _ (by omega)).trans ((pw_up_ne (by omega)).trans (pw_up_self _ _ _))
  have hN1 := hN1.mv (f' := f3) (fun q h1 h2 => (hk3 q (by omega)).trans (pw_n2 (by omega) (by omega)))
  have hN2 := hN2.mv (f' := f3) (fun q h1 h2 => (hk3 q (by omega)).trans (pw_n2 (by omega) (by omega)))
  have hfr3 : ∀ q, q < a → f3 q = f q := fun q hq => (hk3 q (by omega)).trans ((pw_n2 (by omega) (by omega)).trans (hfr2 q hq))
  replace hz8 : _ = a + 7 := hz8
  clear hk3 hfr2 hA2_0
  refine pw_putF X hS8 (v := .ref (a + 5)) (hA3_0) pc_Di 2 (by decide) w_fl_Di_21 rfl rfl hin rfl rfl rfl (Nat.le_of_ble_eq_true rfl) d_Di_init_37 (fun H9 lc9 hy9 hS9 => ?_)
  have hz9 := hy9.trans hz8; clear hy9 hS8 hz8
  replace hS9 : pw_S K (pw_up f3 (a) (.inr (3, [.ref (a + 1), .ref (a + 3), .ref (a + 5), .null]))) _ _ := hS9
  refine lv_aload_n hx hb d_Di_init_40 rfl (lv_at hl 0 rfl) ?_
  refine pw_new X hS9 pc_Nu w_cl_Di_7 w_ins_Nu w_ini_Nu (fs := [.null, .int 0, .int 0]) (by decide) (show 6 + 1 ≤ 8 by omega) (show 489 + 3 ≤ 700 by omega) d_Di_init_41 hz9 (fun H10 hz10 hS10 => ?_)
  clear hS9 hz9
  refine W.cs (cells' := 7) (slots' := 492) rfl rfl ?_
  replace hS10 : pw_S K (pw_up (pw_up f3 (a) (.inr (3, [.ref (a + 1), .ref (a + 3), .ref (a + 5), .null]))) (a + 7) (.inr (0, [.null, .int 0, .int 0]))) _ _ := hS10
  refine lv_dup hx hb d_Di_init_44 rfl ?_
  refine lv_iconst (v := 1) hx hb d_Di_init_45 (by decide) ?_
  refine pw_callI X hS10 (As := [.int 1]) (rest := [.ref (a + 7), .ref a]) (c_Nu_init l K (pw_up (pw_up f3 (a) (.inr (3, [.ref (a + 1), .ref (a + 3), .ref (a + 5), .null]))) (a + 7) (.inr (0, [.null, .int 0, .int 0]))) (a + 7) 1 160 (by decide) (pw_up_self _ _ _)) hz10 w_cd_Nu_init w_ini_Nu w_ml_Di_9 w_im_Nu_init rfl hd_Nu_init rfl hl.1 (Nat.le_of_ble_eq_true rfl) d_Di_init_46 ⟨Nat.le_of_ble_eq_true rfl, Nat.le_of_ble_eq_true rfl⟩ ⟨show 7 + 1 ≤ 8 by omega, show 492 + 160 ≤ 700 by omega⟩ (fun v f4 H11 lc11 hp hS11 => ?_)
  refine W.cs (cells' := 8) (slots' := 652) rfl rfl ?_
  clear hS10 hz10
  obtain ⟨rfl, hz11, hk4, hN4⟩ := hp
  have hA4_0 : f4 (a) = some (.inr (3, [.ref (a + 1), .ref (a + 3), .ref (a + 5), .null])) := (hk4 _ (by omega)).trans ((pw_up_ne (by omega)).trans (pw_up_self _ _ _))
  have hN1 := hN1.mv (f' := f4) (fun q h1 h2 => (hk4 q (by omega)).trans (pw_n2 (by omega) (by omega)))
  have hN2 := hN2.mv (f' := f4) (fun q h1 h2 => (hk4 q (by omega)).trans (pw_n2 (by omega) (by omega)))
  have hN3 := hN3.mv (f' := f4) (fun q h1 h2 => (hk4 q (by omega)).trans (pw_n2 (by omega) (by omega)))
  have hfr4 : ∀ q, q < a → f4 q = f q := fun q hq => (hk4 q (by omega)).trans ((pw_n2 (by omega) (by omega)).trans (hfr3 q hq))
  replace hz11 : _ = a + 9 := hz11
  clear hk4 hfr3 hA3_0
  refine pw_putF X hS11 (v := .ref (a + 7)) (hA4_0) pc_Di 3 (by decide) w_fl_Di_24 rfl rfl hin rfl rfl rfl (Nat.le_of_ble_eq_true rfl) d_Di_init_49 (fun H12 lc12 hy12 hS12 => ?_)
  have hz12 := hy12.trans hz11; clear hy12 hS11 hz11
  replace hS12 : pw_S K (pw_up f4 (a) (.inr (3, [.ref (a + 1), .ref (a + 3), .ref (a + 5), .ref (a + 7)]))) _ _ := hS12
  have hN1 := hN1.mv (f' := pw_up f4 (a) (.inr (3, [.ref (a + 1), .ref (a + 3), .ref (a + 5), .ref (a + 7)]))) (fun q h1 h2 => (pw_n1 (by omega)))
  have hN2 := hN2.mv (f' := pw_up f4 (a) (.inr (3, [.ref (a + 1), .ref (a + 3), .ref (a + 5), .ref (a + 7)]))) (fun q h1 h2 => (pw_n1 (by omega)))
  have hN3 := hN3.mv (f' := pw_up f4 (a) (.inr (3, [.ref (a + 1), .ref (a + 3), .ref (a + 5), .ref (a + 7)]))) (fun q h1 h2 => (pw_n1 (by omega)))
  have hN4 := hN4.mv (f' := pw_up f4 (a) (.inr (3, [.ref (a + 1), .ref (a + 3), .ref (a + 5), .ref (a + 7)]))) (fun q h1 h2 => (pw_n1 (by omega)))
  exact pw_vret X hS12 hr ⟨rfl, hz12, fun q hq => ((pw_n1 (by omega)).trans (hfr4 q hq)), (pw_up_self _ _ _), hN1, hN2, hN3, hN4⟩ (show 8 ≤ 8 by omega) (show 652 ≤ 700 by omega) d_Di_init_52
