theorem d_Py_init_0 : decode b_Py_init 0 = .ok (.aload_n 0, 1) := by decide +kernel
theorem d_Py_init_1 : decode b_Py_init 1 = .ok (.invokespecial 1, 3) := by decide +kernel
theorem d_Py_init_4 : decode b_Py_init 4 = .ok (.aload_n 0, 1) := by decide +kernel
theorem d_Py_init_5 : decode b_Py_init 5 = .ok (.iload_n 1, 1) := by decide +kernel
theorem d_Py_init_6 : decode b_Py_init 6 = .ok (.anewarray 7, 3) := by decide +kernel
theorem d_Py_init_9 : decode b_Py_init 9 = .ok (.putfield 9, 3) := by decide +kernel
theorem d_Py_init_12 : decode b_Py_init 12 = .ok (.iconst 0, 1) := by decide +kernel
theorem d_Py_init_13 : decode b_Py_init 13 = .ok (.istore_n 3, 1) := by decide +kernel
theorem d_Py_init_14 : decode b_Py_init 14 = .ok (.iload_n 3, 1) := by decide +kernel
theorem d_Py_init_15 : decode b_Py_init 15 = .ok (.iload_n 1, 1) := by decide +kernel
theorem d_Py_init_16 : decode b_Py_init 16 = .ok (.if_icmp .ge 23, 3) := by decide +kernel
theorem d_Py_init_19 : decode b_Py_init 19 = .ok (.aload_n 0, 1) := by decide +kernel
theorem d_Py_init_20 : decode b_Py_init 20 = .ok (.getfield 9, 3) := by decide +kernel
theorem d_Py_init_23 : decode b_Py_init 23 = .ok (.iload_n 3, 1) := by decide +kernel
theorem d_Py_init_24 : decode b_Py_init 24 = .ok (.new 7, 3) := by decide +kernel
theorem d_Py_init_27 : decode b_Py_init 27 = .ok (.dup, 1) := by decide +kernel
theorem d_Py_init_28 : decode b_Py_init 28 = .ok (.iload_n 2, 1) := by decide +kernel
theorem d_Py_init_29 : decode b_Py_init 29 = .ok (.invokespecial 15, 3) := by decide +kernel
theorem d_Py_init_32 : decode b_Py_init 32 = .ok (.aastore, 1) := by decide +kernel
theorem d_Py_init_33 : decode b_Py_init 33 = .ok (.iinc 3 1, 3) := by decide +kernel
theorem d_Py_init_36 : decode b_Py_init 36 = .ok (.goto (-22), 3) := by decide +kernel
theorem d_Py_init_39 : decode b_Py_init 39 = .ok (.aload_n 0, 1) := by decide +kernel
theorem d_Py_init_40 : decode b_Py_init 40 = .ok (.iconst (-1), 1) := by decide +kernel
theorem d_Py_init_41 : decode b_Py_init 41 = .ok (.putfield 18, 3) := by decide +kernel
theorem d_Py_init_44 : decode b_Py_init 44 = .ok (.return_, 1) := by decide +kernel
set_option maxHeartbeats 4000000 in
set_option maxRecDepth 100000 in
theorem c_Py_init (l : Launch) (K : pw_K) (f : pw_F) (a n cp : Nat) (wd : Int32) (hn16 : n ≤ 16) (hcp : (wd = 0 → cp = 48) ∧ (¬ wd = 0 → cp = 160)) (ha : f a = some (.inr (2, [.null, .int 0]))) : pw_C l K y_Py_init b_Py_init 4 none (rmk 3 (1 + 2 * n) (n + 163 * n)) f [.ref a, .int (nI n), .int wd] (a + 1) (fun v f' z => v = none ∧ z = a + 2 + 2 * n ∧ (∀ q, q < a → f' q = f q) ∧ zPy K f' a n cp) := by
  refine pw_start (by decide) (Nat.le_of_ble_eq_true rfl) ?_
  intro p e s m args below meth c ls X hr hin hz hS hl
  have hl : lv_has ls 4 [(0, .ref a), (1, .int (nI n)), (2, .int wd)] := hl
  have hx := X.1
  have hb := X.2.1
  generalize s.heap = H0 at hz hS ⊢
  generalize ([] : List Loc) = lc0 at hS ⊢
  have hcp2 : cp ≤ 160 := by by_cases h : wd = 0; (rw [hcp.1 h]; omega); (rw [hcp.2 h]; omega)
  have loop : ∀ (d k : Nat), k + d = n → ∀ (g : pw_F) (gm : Nat → Option Nat) (H0 : Heap) (lc0 : List Loc) (ls : Array Slot), lv_has ls 4 [(0, .ref a), (1, .int (nI n)), (2, .int wd), (3, .int (nI k))] → Array.size H0 = a + 2 + 2 * k → pw_S K g H0 lc0 → g a = some (.inr (2, [.ref (a + 1), .int 0])) → g (a + 1) = some (.inl (pE K 4, n, .inr (.inr (.inr (.inr gm))))) → (∀ j, j < k → gm j = some (a + 2 + 2 * j)) → (∀ j, j < k → zNu K g (a + 2 + 2 * j) cp) → (∀ q, q < a → g q = f q) →
      W p l e (rmk 3 (1 + 2 * n) (n + 163 * n)) s m args below meth c H0 lc0 (1 + 2 * k) (n + 163 * k) (MQ below (pw_Q K (fun v f' z => v = none ∧ z = a + 2 + 2 * n ∧ (∀ q, q < a → f' q = f q) ∧ zPy K f' a n cp)) args s (rmk 3 (1 + 2 * n) (n + 163 * n)).cells (rmk 3 (1 + 2 * n) (n + 163 * n)).slots (fun q => (pZ K).heap.size ≤ q)) (F0 m 14 ls []) := by
    intro d
    induction d with
    | zero =>
      intro k hk g gm H0 lc0 ls hl hz hS ga gb hgm hnu hfr
      obtain rfl : k = n := by omega
      refine lv_iload_n hx hb d_Py_init_14 rfl (lv_at hl 3 rfl) ?_
      refine lv_iload_n hx hb d_Py_init_15 rfl (lv_at hl 1 rfl) ?_
      refine lv_icmp_ge (tgt := 39) hx hb d_Py_init_16 (by decide) (fun cw => ?_) (fun cw => ?_)
      · refine lv_aload_n hx hb d_Py_init_39 rfl (lv_at hl 0 rfl) ?_
        refine lv_iconst (v := -1) hx hb d_Py_init_40 (by decide) ?_
        refine pw_put X hS (v := .int (-1)) (ga) pc_Py 1 (by decide) w_fl_Py_18 rfl rfl rfl rfl (Nat.le_of_ble_eq_true rfl) d_Py_init_41 (fun H1 lc1 hy1 hS1 => ?_)
        have hz1 := hy1.trans hz; clear hy1 hS hz
        replace hS1 : pw_S K (pw_up g (a) (.inr (2, [.ref (a + 1), .int (-1)]))) _ _ := hS1
        refine pw_vret X hS1 hr ⟨rfl, hz1, fun q hq => (pw_n1 (by omega)).trans (hfr q hq), pw_up_self _ _ _, ⟨gm, (pw_up_ne (by omega)).trans gb, hgm⟩, fun j hj => (hnu j hj).mv (fun q h1 h2 => pw_n1 (by omega))⟩ (show 1 + 2 * k ≤ 1 + 2 * k by omega) (show k + 163 * k ≤ k + 163 * k by omega) d_Py_init_44
      · exact absurd (Int32.le_refl _) cw
    | succ d ih =>
      intro k hk g gm H0 lc0 ls hl hz hS ga gb hgm hnu hfr
      refine lv_iload_n hx hb d_Py_init_14 rfl (lv_at hl 3 rfl) ?_
      refine lv_iload_n hx hb d_Py_init_15 rfl (lv_at hl 1 rfl) ?_
      refine lv_icmp_ge (tgt := 39) hx hb d_Py_init_16 (by decide) (fun cw => ?_) (fun cw => ?_)
      · exact absurd cw (nI_ge (by omega) (by omega))
      · refine lv_aload_n hx hb d_Py_init_19 rfl (lv_at hl 0 rfl) ?_
        refine pw_get X hS (ga) pc_Py 0 (by decide) w_fl_Py_9 rfl (v := .ref (a + 1)) rfl d_Py_init_20 ?_
        refine lv_iload_n hx hb d_Py_init_23 rfl (lv_at hl 3 rfl) ?_
        refine pw_new X hS pc_Nu w_cl_Py_7 w_ins_Nu w_ini_Nu (fs := [.null, .int 0, .int 0]) (by decide) (show (1 + 2 * k) + 1 ≤ (1 + 2 * n) by omega) (show (n + 163 * k) + 3 ≤ (n + 163 * n) by omega) d_Py_init_24 hz (fun H1 hz1 hS1 => ?_)
        clear hS hz
        refine W.cs (cells' := ((1 + 2 * k) + 1)) (slots' := ((n + 163 * k) + 3)) (show (1 + 2 * k) + 1 = ((1 + 2 * k) + 1) by omega) (show (n + 163 * k) + 3 = ((n + 163 * k) + 3) by omega) ?_
        replace hS1 : pw_S K (pw_up g (a + 2 + 2 * k) (.inr (0, [.null, .int 0, .int 0]))) _ _ := hS1
        refine lv_dup hx hb d_Py_init_27 rfl ?_
        refine lv_iload_n hx hb d_Py_init_28 rfl (lv_at hl 2 rfl) ?_
        refine pw_callI X hS1 (As := [.int wd]) (rest := [.ref (a + 2 + 2 * k), .int (nI k), .ref (a + 1)]) (c_Nu_init l K (pw_up g (a + 2 + 2 * k) (.inr (0, [.null, .int 0, .int 0]))) (a + 2 + 2 * k) wd cp hcp (pw_up_self _ _ _)) hz1 w_cd_Nu_init w_ini_Nu w_ml_Py_15 w_im_Nu_init rfl hd_Nu_init rfl hl.1 (Nat.le_of_ble_eq_true rfl) d_Py_init_29 ⟨Nat.le_of_ble_eq_true rfl, Nat.le_of_ble_eq_true rfl⟩ ⟨show ((1 + 2 * k) + 1) + 1 ≤ (1 + 2 * n) by omega, show ((n + 163 * k) + 3) + cp ≤ (n + 163 * n) by omega⟩ (fun v f1 H2 lc2 hp hS2 => ?_)
        refine W.cs (cells' := (((1 + 2 * k) + 1) + 1)) (slots' := (((n + 163 * k) + 3) + cp)) (show ((1 + 2 * k) + 1) + 1 = (((1 + 2 * k) + 1) + 1) by omega) (show ((n + 163 * k) + 3) + cp = (((n + 163 * k) + 3) + cp) by omega) ?_
        clear hS1 hz1
        obtain ⟨rfl, hz2, hk1, hN1⟩ := hp
        have hq1 := hk1
        have hfq : ∀ q, q < a → f1 q = f q := fun q hq => (hk1 q (by omega)).trans ((pw_n1 (by omega)).trans (hfr q hq))
        have hA1_0 : f1 (a) = some (.inr (2, [.ref (a + 1), .int 0])) := (hk1 _ (by omega)).trans ((pw_up_ne (by omega)).trans (ga))
        have hA1_1 : f1 (a + 1) = some (.inl (pE K 4, n, .inr (.inr (.inr (.inr gm))))) := (hk1 _ (by omega)).trans ((pw_up_ne (by omega)).trans (gb))
        replace hz2 : _ = a + 2 + 2 * k + 2 := hz2
        clear hk1
        have hgn := hN1
        have hnu1 : ∀ j, j < k → zNu K f1 (a + 2 + 2 * j) cp := fun j hj => (hnu j hj).mv (fun q h1 h2 => (hq1 q (by omega)).trans (pw_n1 (by omega)))
        refine pw_ast X hS2 4 (r := (R_Nu, F_Nu, 3)) rfl (hA1_1) (hN1.1) rfl (vp_in_nI (by omega) (by omega)) d_Py_init_32 (fun H3 lc3 hy3 hS3 => ?_)
        have hz3 := hy3.trans hz2; clear hy3 hS2 hz2
        replace hS3 : pw_S K (pw_up f1 (a + 1) (.inl (pE K 4, n, .inr (.inr (.inr (.inr (va_up gm (nI k).toNatClampNeg (some (a + 2 + 2 * k))))))))) _ _ := hS3
        refine lv_iinc (v := nI (k + 1)) (lv' := [(3, .int (nI (k + 1))), (0, .ref a), (1, .int (nI n)), (2, .int wd)]) hx hb d_Py_init_33 hl (k := 3) rfl (nI_succ k).symm (by decide) rfl (fun ls hl => ?_)
        refine lv_goto (tgt := 14) hx hb d_Py_init_36 (by decide) ?_
        have ecl : (nI k).toNatClampNeg = k := nI_clamp (by omega)
        refine W.widen (k := 1 + 2 * (k + 1)) (n := n + 163 * (k + 1)) (show (((1 + 2 * k) + 1) + 1) ≤ _ by omega) (show (((n + 163 * k) + 3) + cp) ≤ _ by omega) ?_
        refine ih (k + 1) (by omega) _ (va_up gm (nI k).toNatClampNeg (some (a + 2 + 2 * k))) _ _ ls (lv_sub hl [1, 2, 3, 0] rfl) (by omega) hS3 ((pw_up_ne (by omega)).trans (hA1_0)) (pw_up_self _ _ _) (fun j hj => ?_) (fun j hj => ?_) (fun q hq => (pw_n1 (by omega)).trans (hfq q hq))
        · by_cases hjk : j = k
          · subst hjk; rw [ecl]; exact va_up_self _ _ _
          · rw [ecl, va_up_ne _ _ hjk]; exact hgm j (by omega)
        · by_cases hjk : j = k
          · subst hjk; exact hN1.mv (fun q h1 h2 => pw_n1 (by omega))
          · exact (hnu1 j (by omega)).mv (fun q h1 h2 => pw_n1 (by omega))
  refine lv_aload_n hx hb d_Py_init_0 rfl (lv_at hl 0 rfl) ?_
  refine pw_obj X w_ml_Py_1 hl.1 d_Py_init_1 ⟨Nat.le_of_ble_eq_true rfl, Nat.le_of_ble_eq_true rfl⟩ rfl ?_
  refine lv_aload_n hx hb d_Py_init_4 rfl (lv_at hl 0 rfl) ?_
  refine lv_iload_n hx hb d_Py_init_5 rfl (lv_at hl 1 rfl) ?_
  refine pw_newq X hS w_cl_Py_7 w_ao_Nu 4 rfl (N' := n) (nI_pos (by omega)) (nI_clamp (by omega)) (by omega) (show 0 + 1 ≤ (1 + 2 * n) by omega) (show 0 + n ≤ (n + 163 * n) by omega) d_Py_init_6 hz (fun H1 hz1 hS1 => ?_)
  clear hS hz
  refine W.cs (cells' := 1) (slots' := n) rfl (show 0 + n = n by omega) ?_
  replace hS1 : pw_S K (pw_up f (a + 1) (.inl (pE K 4, n, .inr (.inr (.inr (.inr (fun _ => none))))))) _ _ := hS1
  refine pw_putF X hS1 (v := .ref (a + 1)) ((pw_up_ne (by omega)).trans (ha)) pc_Py 0 (by decide) w_fl_Py_9 rfl rfl hin rfl rfl rfl (Nat.le_of_ble_eq_true rfl) d_Py_init_9 (fun H2 lc2 hy2 hS2 => ?_)
  have hz2 := hy2.trans hz1; clear hy2 hS1 hz1
  replace hS2 : pw_S K (pw_up (pw_up f (a + 1) (.inl (pE K 4, n, .inr (.inr (.inr (.inr (fun _ => none))))))) (a) (.inr (2, [.ref (a + 1), .int 0]))) _ _ := hS2
  refine lv_iconst (v := 0) hx hb d_Py_init_12 (by decide) ?_
  refine lv_istore_n (lv' := [(3, .int 0), (0, .ref a), (1, .int (nI n)), (2, .int wd)]) hx hb d_Py_init_13 rfl hl (by decide) rfl (fun ls hl => ?_)
  refine W.cs (cells' := 1 + 2 * 0) (slots' := n + 163 * 0) (by omega) (by omega) ?_
  refine loop n 0 (by omega) _ (fun _ => none) _ _ ls (lv_sub hl [1, 2, 3, 0] rfl) (by omega) hS2 (pw_up_self _ _ _) ((pw_up_ne (by omega)).trans (pw_up_self _ _ _)) (fun j hj => absurd hj (Nat.not_lt_zero j)) (fun j hj => absurd hj (Nat.not_lt_zero j)) (fun q hq => pw_n2 (by omega) (by omega))
