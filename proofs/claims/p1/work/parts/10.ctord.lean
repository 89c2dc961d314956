theorem d_He_init_0 : decode b_He_init 0 = .ok (.aload_n 0, 1) := by decide +kernel
theorem d_He_init_1 : decode b_He_init 1 = .ok (.invokespecial 3, 3) := by decide +kernel
theorem d_He_init_4 : decode b_He_init 4 = .ok (.aload_n 0, 1) := by decide +kernel
theorem d_He_init_5 : decode b_He_init 5 = .ok (.bipush 9, 2) := by decide +kernel
theorem d_He_init_7 : decode b_He_init 7 = .ok (.newarray .int, 2) := by decide +kernel
theorem d_He_init_9 : decode b_He_init 9 = .ok (.putfield 9, 3) := by decide +kernel
theorem d_He_init_12 : decode b_He_init 12 = .ok (.aload_n 0, 1) := by decide +kernel
theorem d_He_init_13 : decode b_He_init 13 = .ok (.new 15, 3) := by decide +kernel
theorem d_He_init_16 : decode b_He_init 16 = .ok (.dup, 1) := by decide +kernel
theorem d_He_init_17 : decode b_He_init 17 = .ok (.bipush 9, 2) := by decide +kernel
theorem d_He_init_19 : decode b_He_init 19 = .ok (.iconst 0, 1) := by decide +kernel
theorem d_He_init_20 : decode b_He_init 20 = .ok (.invokespecial 17, 3) := by decide +kernel
theorem d_He_init_23 : decode b_He_init 23 = .ok (.putfield 20, 3) := by decide +kernel
theorem d_He_init_26 : decode b_He_init 26 = .ok (.aload_n 0, 1) := by decide +kernel
theorem d_He_init_27 : decode b_He_init 27 = .ok (.new 24, 3) := by decide +kernel
theorem d_He_init_30 : decode b_He_init 30 = .ok (.dup, 1) := by decide +kernel
theorem d_He_init_31 : decode b_He_init 31 = .ok (.bipush 9, 2) := by decide +kernel
theorem d_He_init_33 : decode b_He_init 33 = .ok (.invokespecial 26, 3) := by decide +kernel
theorem d_He_init_36 : decode b_He_init 36 = .ok (.putfield 29, 3) := by decide +kernel
theorem d_He_init_39 : decode b_He_init 39 = .ok (.aload_n 0, 1) := by decide +kernel
theorem d_He_init_40 : decode b_He_init 40 = .ok (.bipush 8, 2) := by decide +kernel
theorem d_He_init_42 : decode b_He_init 42 = .ok (.anewarray 33, 3) := by decide +kernel
theorem d_He_init_45 : decode b_He_init 45 = .ok (.putfield 35, 3) := by decide +kernel
theorem d_He_init_48 : decode b_He_init 48 = .ok (.iconst 0, 1) := by decide +kernel
theorem d_He_init_49 : decode b_He_init 49 = .ok (.istore_n 1, 1) := by decide +kernel
theorem d_He_init_50 : decode b_He_init 50 = .ok (.iload_n 1, 1) := by decide +kernel
theorem d_He_init_51 : decode b_He_init 51 = .ok (.bipush 8, 2) := by decide +kernel
theorem d_He_init_53 : decode b_He_init 53 = .ok (.if_icmp .ge 22, 3) := by decide +kernel
theorem d_He_init_56 : decode b_He_init 56 = .ok (.aload_n 0, 1) := by decide +kernel
theorem d_He_init_57 : decode b_He_init 57 = .ok (.getfield 35, 3) := by decide +kernel
theorem d_He_init_60 : decode b_He_init 60 = .ok (.iload_n 1, 1) := by decide +kernel
theorem d_He_init_61 : decode b_He_init 61 = .ok (.new 33, 3) := by decide +kernel
theorem d_He_init_64 : decode b_He_init 64 = .ok (.dup, 1) := by decide +kernel
theorem d_He_init_65 : decode b_He_init 65 = .ok (.invokespecial 39, 3) := by decide +kernel
theorem d_He_init_68 : decode b_He_init 68 = .ok (.aastore, 1) := by decide +kernel
theorem d_He_init_69 : decode b_He_init 69 = .ok (.iinc 1 1, 3) := by decide +kernel
theorem d_He_init_72 : decode b_He_init 72 = .ok (.goto (-22), 3) := by decide +kernel
theorem d_He_init_75 : decode b_He_init 75 = .ok (.return_, 1) := by decide +kernel
set_option maxHeartbeats 4000000 in
set_option maxRecDepth 100000 in
theorem c_He_init (l : Launch) (K : pw_K) (f : pw_F) (a : Nat) (ha : f a = some (.inr (7, [.null, .null, .null, .null, .int 0, .int 0, .int 0, .int 0, .int 0]))) : pw_C l K y_He_init b_He_init 2 none (rmk 5 176 29028) f [.ref a] (a + 1) (fun v f' z => v = none ∧ z = a + 177 ∧ (∀ q, q < a → f' q = f q) ∧ zHe K f' a) := by
  refine pw_start (by decide) (Nat.le_of_ble_eq_true rfl) ?_
  intro p e s m args below meth c ls X hr hin hz hS hl
  have hl : lv_has ls 2 [(0, .ref a)] := hl
  have hx := X.1
  have hb := X.2.1
  generalize s.heap = H0 at hz hS ⊢
  generalize ([] : List Loc) = lc0 at hS ⊢
  have loop : ∀ (d k : Nat), k + d = 8 → ∀ (g : pw_F) (gm : Nat → Option Nat) (H0 : Heap) (lc0 : List Loc) (ls : Array Slot), lv_has ls 2 [(0, .ref a), (1, .int (nI k))] → Array.size H0 = a + 153 + 3 * k → pw_S K g H0 lc0 → g a = some (.inr (7, [.ref (a + 1), .ref (a + 2), .ref (a + 22), .ref (a + 152), .int 0, .int 0, .int 0, .int 0, .int 0])) → g (a + 152) = some (.inl (pE K 6, 8, .inr (.inr (.inr (.inr gm))))) → (∀ j, j < k → gm j = some (a + 153 + 3 * j)) → (∀ j, j < k → zRo K g (a + 153 + 3 * j)) → zPy K g (a + 2) 9 48 → zCh K g (a + 22) 9 → g (a + 1) = some (.inl (pE K 0, 9, .inl (fun _ => 0))) → (∀ q, q < a → g q = f q) →
      W p l e (rmk (5) (176) (29028)) s m args below meth c H0 lc0 (152 + 3 * k) (28508 + 65 * k) (MQ below (pw_Q K (fun v f' z => v = none ∧ z = a + 177 ∧ (∀ q, q < a → f' q = f q) ∧ zHe K f' a)) args s (rmk (5) (176) (29028)).cells (rmk (5) (176) (29028)).slots (fun q => (pZ K).heap.size ≤ q)) (F0 m 50 ls []) := by
    intro d
    induction d with
    | zero =>
      intro k hk g gm H0 lc0 ls hl hz hS ga gb hgm hsh hp1 hc1 gg hfr
      obtain rfl : k = 8 := by omega
      refine lv_iload_n hx hb d_He_init_50 rfl (lv_at hl 1 rfl) ?_
      refine lv_bipush (v := 8) hx hb d_He_init_51 (by decide) ?_
      refine lv_icmp_ge (tgt := 75) hx hb d_He_init_53 (by decide) (fun cw => ?_) (fun cw => ?_)
      · exact pw_vret X hS hr ⟨rfl, hz, hfr, ga, gg, hp1, hc1, ⟨gm, gb, hgm⟩, hsh⟩ (show 152 + 3 * 8 ≤ 176 by omega) (show 28508 + 65 * 8 ≤ 29028 by omega) d_He_init_75
      · exact absurd (Int32.le_refl _) cw
    | succ d ih =>
      intro k hk g gm H0 lc0 ls hl hz hS ga gb hgm hsh hp1 hc1 gg hfr
      refine lv_iload_n hx hb d_He_init_50 rfl (lv_at hl 1 rfl) ?_
      refine lv_bipush (v := 8) hx hb d_He_init_51 (by decide) ?_
      refine lv_icmp_ge (tgt := 75) hx hb d_He_init_53 (by decide) (fun cw => ?_) (fun cw => ?_)
      · exact absurd cw (nI_ge (a := k) (b := 8) (by omega) (by omega))
      · refine lv_aload_n hx hb d_He_init_56 rfl (lv_at hl 0 rfl) ?_
        refine pw_get X hS (ga) pc_He 3 (by decide) w_fl_He_35 rfl (v := .ref (a + 152)) rfl d_He_init_57 ?_
        refine lv_iload_n hx hb d_He_init_60 rfl (lv_at hl 1 rfl) ?_
        refine pw_new X hS pc_Ro w_cl_He_33 w_ins_Ro w_ini_Ro (fs := [.null, .int 0, .int 0, .int 0, .int 0]) (by decide) (show (152 + 3 * k) + 1 ≤ 176 by omega) (show (28508 + 65 * k) + 5 ≤ 29028 by omega) d_He_init_61 hz (fun H1 hz1 hS1 => ?_)
        clear hS hz
        refine W.cs (cells' := ((152 + 3 * k) + 1)) (slots' := ((28508 + 65 * k) + 5)) (show (152 + 3 * k) + 1 = ((152 + 3 * k) + 1) by omega) (show (28508 + 65 * k) + 5 = ((28508 + 65 * k) + 5) by omega) ?_
        replace hS1 : pw_S K (pw_up g (a + 153 + 3 * k) (.inr (6, [.null, .int 0, .int 0, .int 0, .int 0]))) _ _ := hS1
        refine lv_dup hx hb d_He_init_64 rfl ?_
        refine pw_callI X hS1 (As := []) (rest := [.ref (a + 153 + 3 * k), .int (nI k), .ref (a + 152)]) (c_Ro_init l K (pw_up g (a + 153 + 3 * k) (.inr (6, [.null, .int 0, .int 0, .int 0, .int 0]))) (a + 153 + 3 * k) (pw_up_self _ _ _)) hz1 w_cd_Ro_init w_ini_Ro w_ml_He_39 w_im_Ro_init rfl hd_Ro_init rfl hl.1 (Nat.le_of_ble_eq_true rfl) d_He_init_65 ⟨Nat.le_of_ble_eq_true rfl, Nat.le_of_ble_eq_true rfl⟩ ⟨show ((152 + 3 * k) + 1) + 2 ≤ 176 by omega, show ((28508 + 65 * k) + 5) + 60 ≤ 29028 by omega⟩ (fun v f1 H2 lc2 hp hS2 => ?_)
        refine W.cs (cells' := (((152 + 3 * k) + 1) + 2)) (slots' := (((28508 + 65 * k) + 5) + 60)) (show ((152 + 3 * k) + 1) + 2 = (((152 + 3 * k) + 1) + 2) by omega) (show ((28508 + 65 * k) + 5) + 60 = (((28508 + 65 * k) + 5) + 60) by omega) ?_
        clear hS1 hz1
        obtain ⟨rfl, hz2, hk1, hN1⟩ := hp
        have hfq : ∀ q, q < a → f1 q = f q := fun q hq => (hk1 q (by omega)).trans ((pw_n1 (by omega)).trans (hfr q hq))
        have hsh1 : ∀ j, j < k → zRo K f1 (a + 153 + 3 * j) := fun j hj => (hsh j hj).mv (fun q h1 h2 => (hk1 q (by have hmo := True.intro; omega)).trans (pw_n1 (by have hmo := True.intro; omega)))
        have hA1_0 : f1 (a) = some (.inr (7, [.ref (a + 1), .ref (a + 2), .ref (a + 22), .ref (a + 152), .int 0, .int 0, .int 0, .int 0, .int 0])) := (hk1 _ (by omega)).trans ((pw_up_ne (by omega)).trans (ga))
        have hA1_1 : f1 (a + 152) = some (.inl (pE K 6, 8, .inr (.inr (.inr (.inr gm))))) := (hk1 _ (by omega)).trans ((pw_up_ne (by omega)).trans (gb))
        have hA1_2 : f1 (a + 1) = some (.inl (pE K 0, 9, .inl (fun _ => 0))) := (hk1 _ (by omega)).trans ((pw_up_ne (by omega)).trans (gg))
        have hp1 := hp1.mv (f' := f1) (fun q h1 h2 => (hk1 q (by omega)).trans (pw_n1 (by omega)))
        have hc1 := hc1.mv (f' := f1) (fun q h1 h2 => (hk1 q (by omega)).trans (pw_n1 (by omega)))
        replace hz2 : _ = a + 153 + 3 * k + 3 := hz2
        clear hk1
        refine pw_ast X hS2 6 (r := (R_Ro, F_Ro, 5)) rfl (hA1_1) (hN1.1) rfl (vp_in_nI (by omega) (by omega)) d_He_init_68 (fun H3 lc3 hy3 hS3 => ?_)
        have hz3 := hy3.trans hz2; clear hy3 hS2 hz2
        replace hS3 : pw_S K (pw_up f1 (a + 152) (.inl (pE K 6, 8, .inr (.inr (.inr (.inr (va_up gm (nI k).toNatClampNeg (some (a + 153 + 3 * k))))))))) _ _ := hS3
        refine lv_iinc (v := nI (k + 1)) (lv' := [(1, .int (nI (k + 1))), (0, .ref a)]) hx hb d_He_init_69 hl (k := 1) rfl (nI_succ k).symm (by decide) rfl (fun ls hl => ?_)
        refine lv_goto (tgt := 50) hx hb d_He_init_72 (by decide) ?_
        have ecl : (nI k).toNatClampNeg = k := nI_clamp (by omega)
        refine W.widen (k := 152 + 3 * (k + 1)) (n := 28508 + 65 * (k + 1)) (show (((152 + 3 * k) + 1) + 2) ≤ _ by omega) (show (((28508 + 65 * k) + 5) + 60) ≤ _ by omega) ?_
        refine ih (k + 1) (by omega) _ (va_up gm (nI k).toNatClampNeg (some (a + 153 + 3 * k))) _ _ ls (lv_sub hl [1, 0] rfl) (by omega) hS3 ((pw_up_ne (by omega)).trans (hA1_0)) (pw_up_self _ _ _) (fun j hj => ?_) (fun j hj => ?_) (hp1.mv (fun q h1 h2 => pw_n1 (by omega))) (hc1.mv (fun q h1 h2 => pw_n1 (by omega))) ((pw_up_ne (by omega)).trans (hA1_2)) (fun q hq => (pw_n1 (by omega)).trans (hfq q hq))
        · by_cases hjk : j = k
          · subst hjk; rw [ecl]; exact va_up_self _ _ _
          · rw [ecl, va_up_ne _ _ hjk]; exact hgm j (by omega)
        · by_cases hjk : j = k
          · subst hjk; exact hN1.mv (fun q h1 h2 => pw_n1 (by omega))
          · have hmo := True.intro
            exact (hsh1 j (by omega)).mv (fun q h1 h2 => pw_n1 (by omega))
  refine lv_aload_n hx hb d_He_init_0 rfl (lv_at hl 0 rfl) ?_
  refine pw_obj X w_ml_He_3 hl.1 d_He_init_1 ⟨Nat.le_of_ble_eq_true rfl, Nat.le_of_ble_eq_true rfl⟩ rfl ?_
  refine lv_aload_n hx hb d_He_init_4 rfl (lv_at hl 0 rfl) ?_
  refine lv_bipush (v := 9) hx hb d_He_init_5 (by decide) ?_
  refine pw_newa X hS (ty := .int) rfl w_ac_int 0 rfl rfl (N' := 9) (a0 := (9, .inl (fun _ => 0))) (fun _ => rfl) (by decide) (by decide) (by decide) (show 0 + 1 ≤ 176 by omega) (show 0 + 9 ≤ 29028 by omega) d_He_init_7 hz (fun H1 hz1 hS1 => ?_)
  clear hS hz
  refine W.cs (cells' := 1) (slots' := 9) rfl rfl ?_
  replace hS1 : pw_S K (pw_up f (a + 1) (.inl (pE K 0, 9, .inl (fun _ => 0)))) _ _ := hS1
  refine pw_putF X hS1 (v := .ref (a + 1)) ((pw_up_ne (by omega)).trans (ha)) pc_He 0 (by decide) w_fl_He_9 rfl rfl hin rfl rfl rfl (Nat.le_of_ble_eq_true rfl) d_He_init_9 (fun H2 lc2 hy2 hS2 => ?_)
  have hz2 := hy2.trans hz1; clear hy2 hS1 hz1
  replace hS2 : pw_S K (pw_up (pw_up f (a + 1) (.inl (pE K 0, 9, .inl (fun _ => 0)))) (a) (.inr (7, [.ref (a + 1), .null, .null, .null, .int 0, .int 0, .int 0, .int 0, .int 0]))) _ _ := hS2
  refine lv_aload_n hx hb d_He_init_12 rfl (lv_at hl 0 rfl) ?_
  refine pw_new X hS2 pc_Py w_cl_He_15 w_ins_Py w_ini_Py (fs := [.null, .int 0]) (by decide) (show 1 + 1 ≤ 176 by omega) (show 9 + 2 ≤ 29028 by omega) d_He_init_13 hz2 (fun H3 hz3 hS3 => ?_)
  clear hS2 hz2
  refine W.cs (cells' := 2) (slots' := 11) rfl rfl ?_
  replace hS3 : pw_S K (pw_up (pw_up (pw_up f (a + 1) (.inl (pE K 0, 9, .inl (fun _ => 0)))) (a) (.inr (7, [.ref (a + 1), .null, .null, .null, .int 0, .int 0, .int 0, .int 0, .int 0]))) (a + 2) (.inr (2, [.null, .int 0]))) _ _ := hS3
  refine lv_dup hx hb d_He_init_16 rfl ?_
  refine lv_bipush (v := 9) hx hb d_He_init_17 (by decide) ?_
  refine lv_iconst (v := 0) hx hb d_He_init_19 (by decide) ?_
  refine pw_callI X hS3 (As := [.int 9, .int 0]) (rest := [.ref (a + 2), .ref a]) (c_Py_init l K (pw_up (pw_up (pw_up f (a + 1) (.inl (pE K 0, 9, .inl (fun _ => 0)))) (a) (.inr (7, [.ref (a + 1), .null, .null, .null, .int 0, .int 0, .int 0, .int 0, .int 0]))) (a + 2) (.inr (2, [.null, .int 0]))) (a + 2) 9 48 0 (by omega) (by decide) (pw_up_self _ _ _)) hz3 w_cd_Py_init w_ini_Py w_ml_He_17 w_im_Py_init rfl hd_Py_init rfl hl.1 (Nat.le_of_ble_eq_true rfl) d_He_init_20 ⟨Nat.le_of_ble_eq_true rfl, Nat.le_of_ble_eq_true rfl⟩ ⟨show 2 + 19 ≤ 176 by omega, show 11 + 1476 ≤ 29028 by omega⟩ (fun v f1 H4 lc4 hp hS4 => ?_)
  refine W.cs (cells' := 21) (slots' := 1487) rfl rfl ?_
  clear hS3 hz3
  obtain ⟨rfl, hz4, hk1, hN1⟩ := hp
  have hA1_0 : f1 (a) = some (.inr (7, [.ref (a + 1), .null, .null, .null, .int 0, .int 0, .int 0, .int 0, .int 0])) := (hk1 _ (by omega)).trans ((pw_up_ne (by omega)).trans (pw_up_self _ _ _))
  have hA1_1 : f1 (a + 1) = some (.inl (pE K 0, 9, .inl (fun _ => 0))) := (hk1 _ (by omega)).trans ((pw_up_ne (by omega)).trans ((pw_up_ne (by omega)).trans (pw_up_self _ _ _)))
  have hfr1 : ∀ q, q < a → f1 q = f q := fun q hq => (hk1 q (by omega)).trans (pw_n3 (by omega) (by omega) (by omega))
  replace hz4 : _ = a + 22 := hz4
  clear hk1
  refine pw_putF X hS4 (v := .ref (a + 2)) (hA1_0) pc_He 1 (by decide) w_fl_He_20 rfl rfl hin rfl rfl rfl (Nat.le_of_ble_eq_true rfl) d_He_init_23 (fun H5 lc5 hy5 hS5 => ?_)
  have hz5 := hy5.trans hz4; clear hy5 hS4 hz4
  replace hS5 : pw_S K (pw_up f1 (a) (.inr (7, [.ref (a + 1), .ref (a + 2), .null, .null, .int 0, .int 0, .int 0, .int 0, .int 0]))) _ _ := hS5
  refine lv_aload_n hx hb d_He_init_26 rfl (lv_at hl 0 rfl) ?_
  refine pw_new X hS5 pc_Ch w_cl_He_24 w_ins_Ch w_ini_Ch (fs := [.null, .int 0, .int 0]) (by decide) (show 21 + 1 ≤ 176 by omega) (show 1487 + 3 ≤ 29028 by omega) d_He_init_27 hz5 (fun H6 hz6 hS6 => ?_)
  clear hS5 hz5
  refine W.cs (cells' := 22) (slots' := 1490) rfl rfl ?_
  replace hS6 : pw_S K (pw_up (pw_up f1 (a) (.inr (7, [.ref (a + 1), .ref (a + 2), .null, .null, .int 0, .int 0, .int 0, .int 0, .int 0]))) (a + 22) (.inr (5, [.null, .int 0, .int 0]))) _ _ := hS6
  refine lv_dup hx hb d_He_init_30 rfl ?_
  refine lv_bipush (v := 9) hx hb d_He_init_31 (by decide) ?_
  refine pw_callI X hS6 (As := [.int 9]) (rest := [.ref (a + 22), .ref a]) (c_Ch_init l K (pw_up (pw_up f1 (a) (.inr (7, [.ref (a + 1), .ref (a + 2), .null, .null, .int 0, .int 0, .int 0, .int 0, .int 0]))) (a + 22) (.inr (5, [.null, .int 0, .int 0]))) (a + 22) 9 (by omega) (pw_up_self _ _ _)) hz6 w_cd_Ch_init w_ini_Ch w_ml_He_26 w_im_Ch_init rfl hd_Ch_init rfl hl.1 (Nat.le_of_ble_eq_true rfl) d_He_init_33 ⟨Nat.le_of_ble_eq_true rfl, Nat.le_of_ble_eq_true rfl⟩ ⟨show 22 + 129 ≤ 176 by omega, show 1490 + 27010 ≤ 29028 by omega⟩ (fun v f2 H7 lc7 hp hS7 => ?_)
  refine W.cs (cells' := 151) (slots' := 28500) rfl rfl ?_
  clear hS6 hz6
  obtain ⟨rfl, hz7, hk2, hN2⟩ := hp
  have hA2_0 : f2 (a) = some (.inr (7, [.ref (a + 1), .ref (a + 2), .null, .null, .int 0, .int 0, .int 0, .int 0, .int 0])) := (hk2 _ (by omega)).trans ((pw_up_ne (by omega)).trans (pw_up_self _ _ _))
  have hA2_1 : f2 (a + 1) = some (.inl (pE K 0, 9, .inl (fun _ => 0))) := (hk2 _ (by omega)).trans ((pw_up_ne (by omega)).trans ((pw_up_ne (by omega)).trans (hA1_1)))
  have hN1 := hN1.mv (f' := f2) (fun q h1 h2 => (hk2 q (by omega)).trans (pw_n2 (by omega) (by omega)))
  have hfr2 : ∀ q, q < a → f2 q = f q := fun q hq => (hk2 q (by omega)).trans ((pw_n2 (by omega) (by omega)).trans (hfr1 q hq))
  replace hz7 : _ = a + 152 := hz7
  clear hk2 hfr1 hA1_0 hA1_1
  refine pw_putF X hS7 (v := .ref (a + 22)) (hA2_0) pc_He 2 (by decide) w_fl_He_29 rfl rfl hin rfl rfl rfl (Nat.le_of_ble_eq_true rfl) d_He_init_36 (fun H8 lc8 hy8 hS8 => ?_)
  have hz8 := hy8.trans hz7; clear hy8 hS7 hz7
  replace hS8 : pw_S K (pw_up f2 (a) (.inr (7, [.ref (a + 1), .ref (a + 2), .ref (a + 22), .null, .int 0, .int 0, .int 0, .int 0, .int 0]))) _ _ := hS8
  refine lv_aload_n hx hb d_He_init_39 rfl (lv_at hl 0 rfl) ?_
  refine lv_bipush (v := 8) hx hb d_He_init_40 (by decide) ?_
  refine pw_newq X hS8 w_cl_He_33 w_ao_Ro 6 rfl (N' := 8) (by decide) (by decide) (by decide) (show 151 + 1 ≤ 176 by omega) (show 28500 + 8 ≤ 29028 by omega) d_He_init_42 hz8 (fun H9 hz9 hS9 => ?_)
  clear hS8 hz8
  refine W.cs (cells' := 152) (slots' := 28508) rfl rfl ?_
  replace hS9 : pw_S K (pw_up (pw_up f2 (a) (.inr (7, [.ref (a + 1), .ref (a + 2), .ref (a + 22), .null, .int 0, .int 0, .int 0, .int 0, .int 0]))) (a + 152) (.inl (pE K 6, 8, .inr (.inr (.inr (.inr (fun _ => none))))))) _ _ := hS9
  refine pw_putF X hS9 (v := .ref (a + 152)) ((pw_up_ne (by omega)).trans (pw_up_self _ _ _)) pc_He 3 (by decide) w_fl_He_35 rfl rfl hin rfl rfl rfl (Nat.le_of_ble_eq_true rfl) d_He_init_45 (fun H10 lc10 hy10 hS10 => ?_)
  have hz10 := hy10.trans hz9; clear hy10 hS9 hz9
  replace hS10 : pw_S K (pw_up (pw_up (pw_up f2 (a) (.inr (7, [.ref (a + 1), .ref (a + 2), .ref (a + 22), .null, .int 0, .int 0, .int 0, .int 0, .int 0]))) (a + 152) (.inl (pE K 6, 8, .inr (.inr (.inr (.inr (fun _ => none))))))) (a) (.inr (7, [.ref (a + 1), .ref (a + 2), .ref (a + 22), .ref (a + 152), .int 0, .int 0, .int 0, .int 0, .int 0]))) _ _ := hS10
  refine lv_iconst (v := 0) hx hb d_He_init_48 (by decide) ?_
  refine lv_istore_n (lv' := [(1, .int 0), (0, .ref a)]) hx hb d_He_init_49 rfl hl (by decide) rfl (fun ls hl => ?_)
  replace hN1 := hN1.mv (f' := pw_up (pw_up (pw_up f2 (a) (.inr (7, [.ref (a + 1), .ref (a + 2), .ref (a + 22), .null, .int 0, .int 0, .int 0, .int 0, .int 0]))) (a + 152) (.inl (pE K 6, 8, .inr (.inr (.inr (.inr (fun _ => none))))))) (a) (.inr (7, [.ref (a + 1), .ref (a + 2), .ref (a + 22), .ref (a + 152), .int 0, .int 0, .int 0, .int 0, .int 0]))) (fun q h1 h2 => (pw_n3 (by omega) (by omega) (by omega)))
  replace hN2 := hN2.mv (f' := pw_up (pw_up (pw_up f2 (a) (.inr (7, [.ref (a + 1), .ref (a + 2), .ref (a + 22), .null, .int 0, .int 0, .int 0, .int 0, .int 0]))) (a + 152) (.inl (pE K 6, 8, .inr (.inr (.inr (.inr (fun _ => none))))))) (a) (.inr (7, [.ref (a + 1), .ref (a + 2), .ref (a + 22), .ref (a + 152), .int 0, .int 0, .int 0, .int 0, .int 0]))) (fun q h1 h2 => (pw_n3 (by omega) (by omega) (by omega)))
  refine W.widen (k := 152 + 3 * 0) (n := 28508 + 65 * 0) (show 152 ≤ _ by omega) (show 28508 ≤ _ by omega) ?_
  refine loop 8 0 (by omega) _ (fun _ => none) _ _ ls (lv_sub hl [1, 0] rfl) (by omega) hS10 (pw_up_self _ _ _) ((pw_up_ne (by omega)).trans (pw_up_self _ _ _)) (fun j hj => absurd hj (Nat.not_lt_zero j)) (fun j hj => absurd hj (Nat.not_lt_zero j)) hN1 hN2 ((pw_up_ne (by omega)).trans ((pw_up_ne (by omega)).trans ((pw_up_ne (by omega)).trans (hA2_1)))) (fun q hq => ((pw_n3 (by omega) (by omega) (by omega)).trans (hfr2 q hq)))
theorem d_D_init_0 : decode b_D_init 0 = .ok (.aload_n 0, 1) := by decide +kernel
theorem d_D_init_1 : decode b_D_init 1 = .ok (.invokespecial 1, 3) := by decide +kernel
theorem d_D_init_4 : decode b_D_init 4 = .ok (.aload_n 0, 1) := by decide +kernel
theorem d_D_init_5 : decode b_D_init 5 = .ok (.iconst 2, 1) := by decide +kernel
theorem d_D_init_6 : decode b_D_init 6 = .ok (.anewarray 9, 3) := by decide +kernel
theorem d_D_init_9 : decode b_D_init 9 = .ok (.putfield 11, 3) := by decide +kernel
theorem d_D_init_12 : decode b_D_init 12 = .ok (.iconst 0, 1) := by decide +kernel
theorem d_D_init_13 : decode b_D_init 13 = .ok (.istore_n 1, 1) := by decide +kernel
theorem d_D_init_14 : decode b_D_init 14 = .ok (.iload_n 1, 1) := by decide +kernel
theorem d_D_init_15 : decode b_D_init 15 = .ok (.iconst 2, 1) := by decide +kernel
theorem d_D_init_16 : decode b_D_init 16 = .ok (.if_icmp .ge 22, 3) := by decide +kernel
theorem d_D_init_19 : decode b_D_init 19 = .ok (.aload_n 0, 1) := by decide +kernel
theorem d_D_init_20 : decode b_D_init 20 = .ok (.getfield 11, 3) := by decide +kernel
theorem d_D_init_23 : decode b_D_init 23 = .ok (.iload_n 1, 1) := by decide +kernel
theorem d_D_init_24 : decode b_D_init 24 = .ok (.new 9, 3) := by decide +kernel
theorem d_D_init_27 : decode b_D_init 27 = .ok (.dup, 1) := by decide +kernel
theorem d_D_init_28 : decode b_D_init 28 = .ok (.invokespecial 15, 3) := by decide +kernel
theorem d_D_init_31 : decode b_D_init 31 = .ok (.aastore, 1) := by decide +kernel
theorem d_D_init_32 : decode b_D_init 32 = .ok (.iinc 1 1, 3) := by decide +kernel
theorem d_D_init_35 : decode b_D_init 35 = .ok (.goto (-21), 3) := by decide +kernel
theorem d_D_init_38 : decode b_D_init 38 = .ok (.aload_n 0, 1) := by decide +kernel
theorem d_D_init_39 : decode b_D_init 39 = .ok (.new 16, 3) := by decide +kernel
theorem d_D_init_42 : decode b_D_init 42 = .ok (.dup, 1) := by decide +kernel
theorem d_D_init_43 : decode b_D_init 43 = .ok (.invokespecial 18, 3) := by decide +kernel
theorem d_D_init_46 : decode b_D_init 46 = .ok (.putfield 19, 3) := by decide +kernel
theorem d_D_init_49 : decode b_D_init 49 = .ok (.aload_n 0, 1) := by decide +kernel
theorem d_D_init_50 : decode b_D_init 50 = .ok (.new 23, 3) := by decide +kernel
theorem d_D_init_53 : decode b_D_init 53 = .ok (.dup, 1) := by decide +kernel
theorem d_D_init_54 : decode b_D_init 54 = .ok (.invokespecial 25, 3) := by decide +kernel
theorem d_D_init_57 : decode b_D_init 57 = .ok (.putfield 26, 3) := by decide +kernel
theorem d_D_init_60 : decode b_D_init 60 = .ok (.aload_n 0, 1) := by decide +kernel
theorem d_D_init_61 : decode b_D_init 61 = .ok (.new 30, 3) := by decide +kernel
theorem d_D_init_64 : decode b_D_init 64 = .ok (.dup, 1) := by decide +kernel
theorem d_D_init_65 : decode b_D_init 65 = .ok (.invokespecial 32, 3) := by decide +kernel
theorem d_D_init_68 : decode b_D_init 68 = .ok (.putfield 33, 3) := by decide +kernel
theorem d_D_init_71 : decode b_D_init 71 = .ok (.return_, 1) := by decide +kernel
set_option maxHeartbeats 4000000 in
set_option maxRecDepth 100000 in
theorem c_D_init (l : Launch) (K : pw_K) (f : pw_F) (a : Nat) (ha : f a = some (.inr (10, [.null, .null, .null, .null]))) : pw_C l K y_D_init b_D_init 2 none (rmk 6 616 100000) f [.ref a] (a + 1) (fun v f' z => v = none ∧ z = a + 617 ∧ (∀ q, q < a → f' q = f q) ∧ zD K f' a) := by
  refine pw_start (by decide) (Nat.le_of_ble_eq_true rfl) ?_
  intro p e s m args below meth c ls X hr hin hz hS hl
  have hl : lv_has ls 2 [(0, .ref a)] := hl
  have hx := X.1
  have hb := X.2.1
  generalize s.heap = H0 at hz hS ⊢
  generalize ([] : List Loc) = lc0 at hS ⊢
  have loop : ∀ (d k : Nat), k + d = 2 → ∀ (g : pw_F) (gm : Nat → Option Nat) (H0 : Heap) (lc0 : List Loc) (ls : Array Slot), lv_has ls 2 [(0, .ref a), (1, .int (nI k))] → Array.size H0 = a + 2 + 177 * k → pw_S K g H0 lc0 → g a = some (.inr (10, [.ref (a + 1), .null, .null, .null])) → g (a + 1) = some (.inl (pE K 7, 2, .inr (.inr (.inr (.inr gm))))) → (∀ j, j < k → gm j = some (a + 2 + 177 * j)) → (∀ j, j < k → zHe K g (a + 2 + 177 * j)) → (∀ q, q < a → g q = f q) →
      W p l e (rmk (6) (616) (100000)) s m args below meth c H0 lc0 (1 + 177 * k) (2 + 29037 * k) (MQ below (pw_Q K (fun v f' z => v = none ∧ z = a + 617 ∧ (∀ q, q < a → f' q = f q) ∧ zD K f' a)) args s (rmk (6) (616) (100000)).cells (rmk (6) (616) (100000)).slots (fun q => (pZ K).heap.size ≤ q)) (F0 m 14 ls []) := by
    intro d
    induction d with
    | zero =>
      intro k hk g gm H0 lc0 ls hl hz hS ga gb hgm hsh   hfr
      obtain rfl : k = 2 := by omega
      refine lv_iload_n hx hb d_D_init_14 rfl (lv_at hl 1 rfl) ?_
      refine lv_iconst (v := 2) hx hb d_D_init_15 (by decide) ?_
      refine lv_icmp_ge (tgt := 38) hx hb d_D_init_16 (by decide) (fun cw => ?_) (fun cw => ?_)
      · have hH0 : zHe K g (a + 2) := hsh 0 (by omega)
        have hH1 : zHe K g (a + 179) := hsh 1 (by omega)
        have hfr0 : ∀ q, q < a → g q = f q := hfr
        replace hz : _ = a + 356 := hz
        refine W.cs (cells' := 355) (slots' := 58076) rfl rfl ?_
        refine lv_aload_n hx hb d_D_init_38 rfl (lv_at hl 0 rfl) ?_
        refine pw_new X hS pc_Be w_cl_D_16 w_ins_Be w_ini_Be (fs := [.null, .null, .null, .null, .null, .null, .null, .null, .null, .null, .null, .null, .null, .null, .null, .null]) (by decide) (show 355 + 1 ≤ 616 by omega) (show 58076 + 16 ≤ 100000 by omega) d_D_init_39 hz (fun H1 hz1 hS1 => ?_)
        clear hS hz
        refine W.cs (cells' := 356) (slots' := 58092) rfl rfl ?_
        replace hS1 : pw_S K (pw_up g (a + 356) (.inr (4, [.null, .null, .null, .null, .null, .null, .null, .null, .null, .null, .null, .null, .null, .null, .null, .null]))) _ _ := hS1
        refine lv_dup hx hb d_D_init_42 rfl ?_
        refine pw_callI X hS1 (As := []) (rest := [.ref (a + 356), .ref a]) (c_Be_init l K (pw_up g (a + 356) (.inr (4, [.null, .null, .null, .null, .null, .null, .null, .null, .null, .null, .null, .null, .null, .null, .null, .null]))) (a + 356) (pw_up_self _ _ _)) hz1 w_cd_Be_init w_ini_Be w_ml_D_18 w_im_Be_init rfl hd_Be_init rfl hl.1 (Nat.le_of_ble_eq_true rfl) d_D_init_43 ⟨Nat.le_of_ble_eq_true rfl, Nat.le_of_ble_eq_true rfl⟩ ⟨show 356 + 90 ≤ 616 by omega, show 58092 + 7000 ≤ 100000 by omega⟩ (fun v f1 H2 lc2 hp hS2 => ?_)
        refine W.cs (cells' := 446) (slots' := 65092) rfl rfl ?_
        clear hS1 hz1
        obtain ⟨rfl, hz2, hk1, hN1⟩ := hp
        have hA1_0 : f1 (a) = some (.inr (10, [.ref (a + 1), .null, .null, .null])) := (hk1 _ (by omega)).trans ((pw_up_ne (by omega)).trans (ga))
        have hA1_1 : f1 (a + 1) = some (.inl (pE K 7, 2, .inr (.inr (.inr (.inr gm))))) := (hk1 _ (by omega)).trans ((pw_up_ne (by omega)).trans (gb))
        have hH0 := hH0.mv (f' := f1) (fun q h1 h2 => (hk1 q (by omega)).trans (pw_n1 (by omega)))
        have hH1 := hH1.mv (f' := f1) (fun q h1 h2 => (hk1 q (by omega)).trans (pw_n1 (by omega)))
        have hfr1 : ∀ q, q < a → f1 q = f q := fun q hq => (hk1 q (by omega)).trans ((pw_n1 (by omega)).trans (hfr0 q hq))
        replace hz2 : _ = a + 447 := hz2
        clear hk1
        refine pw_putF X hS2 (v := .ref (a + 356)) (hA1_0) pc_D 1 (by decide) w_fl_D_19 rfl rfl hin rfl rfl rfl (Nat.le_of_ble_eq_true rfl) d_D_init_46 (fun H3 lc3 hy3 hS3 => ?_)
        have hz3 := hy3.trans hz2; clear hy3 hS2 hz2
        replace hS3 : pw_S K (pw_up f1 (a) (.inr (10, [.ref (a + 1), .ref (a + 356), .null, .null]))) _ _ := hS3
        refine lv_aload_n hx hb d_D_init_49 rfl (lv_at hl 0 rfl) ?_
        refine pw_new X hS3 pc_Qu w_cl_D_23 w_ins_Qu w_ini_Qu (fs := [.null, .null]) (by decide) (show 446 + 1 ≤ 616 by omega) (show 65092 + 2 ≤ 100000 by omega) d_D_init_50 hz3 (fun H4 hz4 hS4 => ?_)
        clear hS3 hz3
        refine W.cs (cells' := 447) (slots' := 65094) rfl rfl ?_
        replace hS4 : pw_S K (pw_up (pw_up f1 (a) (.inr (10, [.ref (a + 1), .ref (a + 356), .null, .null]))) (a + 447) (.inr (8, [.null, .null]))) _ _ := hS4
        refine lv_dup hx hb d_D_init_53 rfl ?_
        refine pw_callI X hS4 (As := []) (rest := [.ref (a + 447), .ref a]) (c_Qu_init l K (pw_up (pw_up f1 (a) (.inr (10, [.ref (a + 1), .ref (a + 356), .null, .null]))) (a + 447) (.inr (8, [.null, .null]))) (a + 447) (pw_up_self _ _ _)) hz4 w_cd_Qu_init w_ini_Qu w_ml_D_25 w_im_Qu_init rfl hd_Qu_init rfl hl.1 (Nat.le_of_ble_eq_true rfl) d_D_init_54 ⟨Nat.le_of_ble_eq_true rfl, Nat.le_of_ble_eq_true rfl⟩ ⟨show 447 + 164 ≤ 616 by omega, show 65094 + 28600 ≤ 100000 by omega⟩ (fun v f2 H5 lc5 hp hS5 => ?_)
        refine W.cs (cells' := 611) (slots' := 93694) rfl rfl ?_
        clear hS4 hz4
        obtain ⟨rfl, hz5, hk2, hN2⟩ := hp
        have hA2_0 : f2 (a) = some (.inr (10, [.ref (a + 1), .ref (a + 356), .null, .null])) := (hk2 _ (by omega)).trans ((pw_up_ne (by omega)).trans (pw_up_self _ _ _))
        have hA2_1 : f2 (a + 1) = some (.inl (pE K 7, 2, .inr (.inr (.inr (.inr gm))))) := (hk2 _ (by omega)).trans ((pw_up_ne (by omega)).trans ((pw_up_ne (by omega)).trans (hA1_1)))
        have hH0 := hH0.mv (f' := f2) (fun q h1 h2 => (hk2 q (by omega)).trans (pw_n2 (by omega) (by omega)))
        have hH1 := hH1.mv (f' := f2) (fun q h1 h2 => (hk2 q (by omega)).trans (pw_n2 (by omega) (by omega)))
        have hN1 := hN1.mv (f' := f2) (fun q h1 h2 => (hk2 q (by omega)).trans (pw_n2 (by omega) (by omega)))
        have hfr2 : ∀ q, q < a → f2 q = f q := fun q hq => (hk2 q (by omega)).trans ((pw_n2 (by omega) (by omega)).trans (hfr1 q hq))
        replace hz5 : _ = a + 612 := hz5
        clear hk2 hfr1 hA1_0 hA1_1
        refine pw_putF X hS5 (v := .ref (a + 447)) (hA2_0) pc_D 2 (by decide) w_fl_D_26 rfl rfl hin rfl rfl rfl (Nat.le_of_ble_eq_true rfl) d_D_init_57 (fun H6 lc6 hy6 hS6 => ?_)
        have hz6 := hy6.trans hz5; clear hy6 hS5 hz5
        replace hS6 : pw_S K (pw_up f2 (a) (.inr (10, [.ref (a + 1), .ref (a + 356), .ref (a + 447), .null]))) _ _ := hS6
        refine lv_aload_n hx hb d_D_init_60 rfl (lv_at hl 0 rfl) ?_
        refine pw_new X hS6 pc_Tx w_cl_D_30 w_ins_Tx w_ini_Tx (fs := [.null, .null, .null, .int 0]) (by decide) (show 611 + 1 ≤ 616 by omega) (show 93694 + 4 ≤ 100000 by omega) d_D_init_61 hz6 (fun H7 hz7 hS7 => ?_)
        clear hS6 hz6
        refine W.cs (cells' := 612) (slots' := 93698) rfl rfl ?_
        replace hS7 : pw_S K (pw_up (pw_up f2 (a) (.inr (10, [.ref (a + 1), .ref (a + 356), .ref (a + 447), .null]))) (a + 612) (.inr (9, [.null, .null, .null, .int 0]))) _ _ := hS7
        refine lv_dup hx hb d_D_init_64 rfl ?_
        refine pw_callI X hS7 (As := []) (rest := [.ref (a + 612), .ref a]) (c_Tx_init l K (pw_up (pw_up f2 (a) (.inr (10, [.ref (a + 1), .ref (a + 356), .ref (a + 447), .null]))) (a + 612) (.inr (9, [.null, .null, .null, .int 0]))) (a + 612) (pw_up_self _ _ _)) hz7 w_cd_Tx_init w_ini_Tx w_ml_D_32 w_im_Tx_init rfl hd_Tx_init rfl hl.1 (Nat.le_of_ble_eq_true rfl) d_D_init_65 ⟨Nat.le_of_ble_eq_true rfl, Nat.le_of_ble_eq_true rfl⟩ ⟨show 612 + 4 ≤ 616 by omega, show 93698 + 500 ≤ 100000 by omega⟩ (fun v f3 H8 lc8 hp hS8 => ?_)
        refine W.cs (cells' := 616) (slots' := 94198) rfl rfl ?_
        clear hS7 hz7
        obtain ⟨rfl, hz8, hk3, hN3⟩ := hp
        have hA3_0 : f3 (a) = some (.inr (10, [.ref (a + 1), .ref (a + 356), .ref (a + 447), .null])) := (hk3 _ (by omega)).trans ((pw_up_ne (by omega)).trans (pw_up_self _ _ _))
        have hA3_1 : f3 (a + 1) = some (.inl (pE K 7, 2, .inr (.inr (.inr (.inr gm))))) := (hk3 _ (by omega)).trans ((pw_up_ne (by omega)).trans ((pw_up_ne (by omega)).trans (hA2_1)))
        have hH0 := hH0.mv (f' := f3) (fun q h1 h2 => (hk3 q (by omega)).trans (pw_n2 (by omega) (by omega)))
        have hH1 := hH1.mv (f' := f3) (fun q h1 h2 => (hk3 q (by omega)).trans (pw_n2 (by omega) (by omega)))
        have hN1 := hN1.mv (f' := f3) (fun q h1 h2 => (hk3 q (by omega)).trans (pw_n2 (by omega) (by omega)))
        have hN2 := hN2.mv (f' := f3) (fun q h1 h2 => (hk3 q (by omega)).trans (pw_n2 (by omega) (by omega)))
        have hfr3 : ∀ q, q < a → f3 q = f q := fun q hq => (hk3 q (by omega)).trans ((pw_n2 (by omega) (by omega)).trans (hfr2 q hq))
        replace hz8 : _ = a + 617 := hz8
        clear hk3 hfr2 hA2_0 hA2_1
        refine pw_putF X hS8 (v := .ref (a + 612)) (hA3_0) pc_D 3 (by decide) w_fl_D_33 rfl rfl hin rfl rfl rfl (Nat.le_of_ble_eq_true rfl) d_D_init_68 (fun H9 lc9 hy9 hS9 => ?_)
        have hz9 := hy9.trans hz8; clear hy9 hS8 hz8
        replace hS9 : pw_S K (pw_up f3 (a) (.inr (10, [.ref (a + 1), .ref (a + 356), .ref (a + 447), .ref (a + 612)]))) _ _ := hS9
        replace hH0 := hH0.mv (f' := pw_up f3 (a) (.inr (10, [.ref (a + 1), .ref (a + 356), .ref (a + 447), .ref (a + 612)]))) (fun q h1 h2 => (pw_n1 (by omega)))
        replace hH1 := hH1.mv (f' := pw_up f3 (a) (.inr (10, [.ref (a + 1), .ref (a + 356), .ref (a + 447), .ref (a + 612)]))) (fun q h1 h2 => (pw_n1 (by omega)))
        replace hN1 := hN1.mv (f' := pw_up f3 (a) (.inr (10, [.ref (a + 1), .ref (a + 356), .ref (a + 447), .ref (a + 612)]))) (fun q h1 h2 => (pw_n1 (by omega)))
        replace hN2 := hN2.mv (f' := pw_up f3 (a) (.inr (10, [.ref (a + 1), .ref (a + 356), .ref (a + 447), .ref (a + 612)]))) (fun q h1 h2 => (pw_n1 (by omega)))
        replace hN3 := hN3.mv (f' := pw_up f3 (a) (.inr (10, [.ref (a + 1), .ref (a + 356), .ref (a + 447), .ref (a + 612)]))) (fun q h1 h2 => (pw_n1 (by omega)))
        have hHa : ∀ j, j < 2 → zHe K (pw_up f3 (a) (.inr (10, [.ref (a + 1), .ref (a + 356), .ref (a + 447), .ref (a + 612)]))) (a + 2 + 177 * j) := by
          intro j hj
          have hc : j = 0 ∨ j = 1 := by omega
          rcases hc with rfl | rfl
          · exact hH0
          · exact hH1
        exact pw_vret X hS9 hr ⟨rfl, hz9, fun q hq => ((pw_n1 (by omega)).trans (hfr3 q hq)), (pw_up_self _ _ _), ⟨gm, ((pw_up_ne (by omega)).trans (hA3_1)), hgm⟩, hHa, hN1, hN2, hN3⟩ (show 616 ≤ 616 by omega) (show 94198 ≤ 100000 by omega) d_D_init_71
      · exact absurd (Int32.le_refl _) cw
    | succ d ih =>
      intro k hk g gm H0 lc0 ls hl hz hS ga gb hgm hsh   hfr
      refine lv_iload_n hx hb d_D_init_14 rfl (lv_at hl 1 rfl) ?_
      refine lv_iconst (v := 2) hx hb d_D_init_15 (by decide) ?_
      refine lv_icmp_ge (tgt := 38) hx hb d_D_init_16 (by decide) (fun cw => ?_) (fun cw => ?_)
      · exact absurd cw (nI_ge (a := k) (b := 2) (by omega) (by omega))
      · refine lv_aload_n hx hb d_D_init_19 rfl (lv_at hl 0 rfl) ?_
        refine pw_get X hS (ga) pc_D 0 (by decide) w_fl_D_11 rfl (v := .ref (a + 1)) rfl d_D_init_20 ?_
        refine lv_iload_n hx hb d_D_init_23 rfl (lv_at hl 1 rfl) ?_
        refine pw_new X hS pc_He w_cl_D_9 w_ins_He w_ini_He (fs := [.null, .null, .null, .null, .int 0, .int 0, .int 0, .int 0, .int 0]) (by decide) (show (1 + 177 * k) + 1 ≤ 616 by omega) (show (2 + 29037 * k) + 9 ≤ 100000 by omega) d_D_init_24 hz (fun H1 hz1 hS1 => ?_)
        clear hS hz
        refine W.cs (cells' := ((1 + 177 * k) + 1)) (slots' := ((2 + 29037 * k) + 9)) (show (1 + 177 * k) + 1 = ((1 + 177 * k) + 1) by omega) (show (2 + 29037 * k) + 9 = ((2 + 29037 * k) + 9) by omega) ?_
        replace hS1 : pw_S K (pw_up g (a + 2 + 177 * k) (.inr (7, [.null, .null, .null, .null, .int 0, .int 0, .int 0, .int 0, .int 0]))) _ _ := hS1
        refine lv_dup hx hb d_D_init_27 rfl ?_
        refine pw_callI X hS1 (As := []) (rest := [.ref (a + 2 + 177 * k), .int (nI k), .ref (a + 1)]) (c_He_init l K (pw_up g (a + 2 + 177 * k) (.inr (7, [.null, .null, .null, .null, .int 0, .int 0, .int 0, .int 0, .int 0]))) (a + 2 + 177 * k) (pw_up_self _ _ _)) hz1 w_cd_He_init w_ini_He w_ml_D_15 w_im_He_init rfl hd_He_init rfl hl.1 (Nat.le_of_ble_eq_true rfl) d_D_init_28 ⟨Nat.le_of_ble_eq_true rfl, Nat.le_of_ble_eq_true rfl⟩ ⟨show ((1 + 177 * k) + 1) + 176 ≤ 616 by omega, show ((2 + 29037 * k) + 9) + 29028 ≤ 100000 by omega⟩ (fun v f1 H2 lc2 hp hS2 => ?_)
        refine W.cs (cells' := (((1 + 177 * k) + 1) + 176)) (slots' := (((2 + 29037 * k) + 9) + 29028)) (show ((1 + 177 * k) + 1) + 176 = (((1 + 177 * k) + 1) + 176) by omega) (show ((2 + 29037 * k) + 9) + 29028 = (((2 + 29037 * k) + 9) + 29028) by omega) ?_
        clear hS1 hz1
        obtain ⟨rfl, hz2, hk1, hN1⟩ := hp
        have hfq : ∀ q, q < a → f1 q = f q := fun q hq => (hk1 q (by omega)).trans ((pw_n1 (by omega)).trans (hfr q hq))
        have hsh1 : ∀ j, j < k → zHe K f1 (a + 2 + 177 * j) := fun j hj => (hsh j hj).mv (fun q h1 h2 => (hk1 q (by have hmo := True.intro; omega)).trans (pw_n1 (by have hmo := True.intro; omega)))
        have hA1_0 : f1 (a) = some (.inr (10, [.ref (a + 1), .null, .null, .null])) := (hk1 _ (by omega)).trans ((pw_up_ne (by omega)).trans (ga))
        have hA1_1 : f1 (a + 1) = some (.inl (pE K 7, 2, .inr (.inr (.inr (.inr gm))))) := (hk1 _ (by omega)).trans ((pw_up_ne (by omega)).trans (gb))
        replace hz2 : _ = a + 2 + 177 * k + 177 := hz2
        clear hk1
        refine pw_ast X hS2 7 (r := (R_He, F_He, 9)) rfl (hA1_1) (hN1.1) rfl (vp_in_nI (by omega) (by omega)) d_D_init_31 (fun H3 lc3 hy3 hS3 => ?_)
        have hz3 := hy3.trans hz2; clear hy3 hS2 hz2
        replace hS3 : pw_S K (pw_up f1 (a + 1) (.inl (pE K 7, 2, .inr (.inr (.inr (.inr (va_up gm (nI k).toNatClampNeg (some (a + 2 + 177 * k))))))))) _ _ := hS3
        refine lv_iinc (v := nI (k + 1)) (lv' := [(1, .int (nI (k + 1))), (0, .ref a)]) hx hb d_D_init_32 hl (k := 1) rfl (nI_succ k).symm (by decide) rfl (fun ls hl => ?_)
        refine lv_goto (tgt := 14) hx hb d_D_init_35 (by decide) ?_
        have ecl : (nI k).toNatClampNeg = k := nI_clamp (by omega)
        refine W.widen (k := 1 + 177 * (k + 1)) (n := 2 + 29037 * (k + 1)) (show (((1 + 177 * k) + 1) + 176) ≤ _ by omega) (show (((2 + 29037 * k) + 9) + 29028) ≤ _ by omega) ?_
        refine ih (k + 1) (by omega) _ (va_up gm (nI k).toNatClampNeg (some (a + 2 + 177 * k))) _ _ ls (lv_sub hl [1, 0] rfl) (by omega) hS3 ((pw_up_ne (by omega)).trans (hA1_0)) (pw_up_self _ _ _) (fun j hj => ?_) (fun j hj => ?_) (fun q hq => (pw_n1 (by omega)).trans (hfq q hq))
        · by_cases hjk : j = k
          · subst hjk; rw [ecl]; exact va_up_self _ _ _
          · rw [ecl, va_up_ne _ _ hjk]; exact hgm j (by omega)
        · by_cases hjk : j = k
          · subst hjk; exact hN1.mv (fun q h1 h2 => pw_n1 (by omega))
          · have hmo := True.intro
            exact (hsh1 j (by omega)).mv (fun q h1 h2 => pw_n1 (by omega))
  refine lv_aload_n hx hb d_D_init_0 rfl (lv_at hl 0 rfl) ?_
  refine pw_obj X w_ml_D_1 hl.1 d_D_init_1 ⟨Nat.le_of_ble_eq_true rfl, Nat.le_of_ble_eq_true rfl⟩ rfl ?_
  refine lv_aload_n hx hb d_D_init_4 rfl (lv_at hl 0 rfl) ?_
  refine lv_iconst (v := 2) hx hb d_D_init_5 (by decide) ?_
  refine pw_newq X hS w_cl_D_9 w_ao_He 7 rfl (N' := 2) (by decide) (by decide) (by decide) (show 0 + 1 ≤ 616 by omega) (show 0 + 2 ≤ 100000 by omega) d_D_init_6 hz (fun H1 hz1 hS1 => ?_)
  clear hS hz
  refine W.cs (cells' := 1) (slots' := 2) rfl rfl ?_
  replace hS1 : pw_S K (pw_up f (a + 1) (.inl (pE K 7, 2, .inr (.inr (.inr (.inr (fun _ => none))))))) _ _ := hS1
  refine pw_putF X hS1 (v := .ref (a + 1)) ((pw_up_ne (by omega)).trans (ha)) pc_D 0 (by decide) w_fl_D_11 rfl rfl hin rfl rfl rfl (Nat.le_of_ble_eq_true rfl) d_D_init_9 (fun H2 lc2 hy2 hS2 => ?_)
  have hz2 := hy2.trans hz1; clear hy2 hS1 hz1
  replace hS2 : pw_S K (pw_up (pw_up f (a + 1) (.inl (pE K 7, 2, .inr (.inr (.inr (.inr (fun _ => none))))))) (a) (.inr (10, [.ref (a + 1), .null, .null, .null]))) _ _ := hS2
  refine lv_iconst (v := 0) hx hb d_D_init_12 (by decide) ?_
  refine lv_istore_n (lv' := [(1, .int 0), (0, .ref a)]) hx hb d_D_init_13 rfl hl (by decide) rfl (fun ls hl => ?_)
  refine W.widen (k := 1 + 177 * 0) (n := 2 + 29037 * 0) (show 1 ≤ _ by omega) (show 2 ≤ _ by omega) ?_
  refine loop 2 0 (by omega) _ (fun _ => none) _ _ ls (lv_sub hl [1, 0] rfl) (by omega) hS2 (pw_up_self _ _ _) ((pw_up_ne (by omega)).trans (pw_up_self _ _ _)) (fun j hj => absurd hj (Nat.not_lt_zero j)) (fun j hj => absurd hj (Nat.not_lt_zero j)) (fun q hq => pw_n2 (by omega) (by omega))
