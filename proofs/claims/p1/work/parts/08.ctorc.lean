theorem chO_0 (h : Nat) : chO h 0 = 2 := rfl
theorem chN_0 (h : Nat) : chN h 0 = h := rfl
theorem chO_s (h : Nat) : ∀ k, k < 10 → chO h (k + 1) = chO h k + 2 + 2 * chN h k := by
  intro k hk
  rcases k with _ | _ | _ | _ | _ | _ | _ | _ | _ | _ | k <;> simp [chO, chN] <;> omega
theorem chO_10 (h : Nat) : chO h 10 = 112 + 2 * h := by simp [chO]; omega
theorem chO_m (h : Nat) : ∀ k, k ≤ 10 → ∀ j, j < k → chO h j + 2 + 2 * chN h j ≤ chO h k := by
  intro k
  induction k with
  | zero => intro _ j hj; omega
  | succ k ih =>
    intro hk j hj
    have h1 := chO_s h k (by omega)
    by_cases e : j = k
    · subst e; omega
    · have h2 := ih (by omega) j (by omega); omega
theorem chO_2 (h : Nat) : ∀ k, k ≤ 10 → 2 ≤ chO h k := by
  intro k hk
  rcases k with _ | k
  · simp [chO]
  · have := chO_m h (k + 1) hk 0 (by omega); simp [chO_0] at this; omega
theorem chN_k (h : Nat) {k : Nat} (hk : ¬ k = 0) : chN h k = 10 - k := if_neg hk
theorem d_Ch_init_0 : decode b_Ch_init 0 = .ok (.aload_n 0, 1) := by decide +kernel
theorem d_Ch_init_1 : decode b_Ch_init 1 = .ok (.invokespecial 1, 3) := by decide +kernel
theorem d_Ch_init_4 : decode b_Ch_init 4 = .ok (.aload_n 0, 1) := by decide +kernel
theorem d_Ch_init_5 : decode b_Ch_init 5 = .ok (.bipush 10, 2) := by decide +kernel
theorem d_Ch_init_7 : decode b_Ch_init 7 = .ok (.anewarray 9, 3) := by decide +kernel
theorem d_Ch_init_10 : decode b_Ch_init 10 = .ok (.putfield 11, 3) := by decide +kernel
theorem d_Ch_init_13 : decode b_Ch_init 13 = .ok (.iconst 0, 1) := by decide +kernel
theorem d_Ch_init_14 : decode b_Ch_init 14 = .ok (.istore_n 2, 1) := by decide +kernel
theorem d_Ch_init_15 : decode b_Ch_init 15 = .ok (.iload_n 2, 1) := by decide +kernel
theorem d_Ch_init_16 : decode b_Ch_init 16 = .ok (.bipush 10, 2) := by decide +kernel
theorem d_Ch_init_18 : decode b_Ch_init 18 = .ok (.if_icmp .ge 35, 3) := by decide +kernel
theorem d_Ch_init_21 : decode b_Ch_init 21 = .ok (.aload_n 0, 1) := by decide +kernel
theorem d_Ch_init_22 : decode b_Ch_init 22 = .ok (.getfield 11, 3) := by decide +kernel
theorem d_Ch_init_25 : decode b_Ch_init 25 = .ok (.iload_n 2, 1) := by decide +kernel
theorem d_Ch_init_26 : decode b_Ch_init 26 = .ok (.new 9, 3) := by decide +kernel
theorem d_Ch_init_29 : decode b_Ch_init 29 = .ok (.dup, 1) := by decide +kernel
theorem d_Ch_init_30 : decode b_Ch_init 30 = .ok (.iload_n 2, 1) := by decide +kernel
theorem d_Ch_init_31 : decode b_Ch_init 31 = .ok (.ifCond .ne 7, 3) := by decide +kernel
theorem d_Ch_init_34 : decode b_Ch_init 34 = .ok (.iload_n 1, 1) := by decide +kernel
theorem d_Ch_init_35 : decode b_Ch_init 35 = .ok (.goto 7, 3) := by decide +kernel
theorem d_Ch_init_38 : decode b_Ch_init 38 = .ok (.bipush 10, 2) := by decide +kernel
theorem d_Ch_init_40 : decode b_Ch_init 40 = .ok (.iload_n 2, 1) := by decide +kernel
theorem d_Ch_init_41 : decode b_Ch_init 41 = .ok (.isub, 1) := by decide +kernel
theorem d_Ch_init_42 : decode b_Ch_init 42 = .ok (.iconst 0, 1) := by decide +kernel
theorem d_Ch_init_43 : decode b_Ch_init 43 = .ok (.invokespecial 15, 3) := by decide +kernel
theorem d_Ch_init_46 : decode b_Ch_init 46 = .ok (.aastore, 1) := by decide +kernel
theorem d_Ch_init_47 : decode b_Ch_init 47 = .ok (.iinc 2 1, 3) := by decide +kernel
theorem d_Ch_init_50 : decode b_Ch_init 50 = .ok (.goto (-35), 3) := by decide +kernel
theorem d_Ch_init_53 : decode b_Ch_init 53 = .ok (.return_, 1) := by decide +kernel
set_option maxHeartbeats 4000000 in
set_option maxRecDepth 100000 in
theorem c_Ch_init (l : Launch) (K : pw_K) (f : pw_F) (a h : Nat) (hh : h ≤ 16) (ha : f a = some (.inr (5, [.null, .int 0, .int 0]))) : pw_C l K y_Ch_init b_Ch_init 3 none (rmk 4 (111 + 2 * h) (10 + 2700 * 10)) f [.ref a, .int (nI h)] (a + 1) (fun v f' z => v = none ∧ z = a + 112 + 2 * h ∧ (∀ q, q < a → f' q = f q) ∧ zCh K f' a h) := by
  refine pw_start (by decide) (Nat.le_of_ble_eq_true rfl) ?_
  intro p e s m args below meth c ls X hr hin hz hS hl
  have hl : lv_has ls 3 [(0, .ref a), (1, .int (nI h))] := hl
  have hx := X.1
  have hb := X.2.1
  generalize s.heap = H0 at hz hS ⊢
  generalize ([] : List Loc) = lc0 at hS ⊢
  have loop : ∀ (d k : Nat), k + d = 10 → ∀ (g : pw_F) (gm : Nat → Option Nat) (H0 : Heap) (lc0 : List Loc) (ls : Array Slot), lv_has ls 3 [(0, .ref a), (1, .int (nI h)), (2, .int (nI k))] → Array.size H0 = a + chO h k → pw_S K g H0 lc0 → g a = some (.inr (5, [.ref (a + 1), .int 0, .int 0])) → g (a + 1) = some (.inl (pE K 5, 10, .inr (.inr (.inr (.inr gm))))) → (∀ j, j < k → gm j = some (a + chO h j)) → (∀ j, j < k → zPy K g (a + chO h j) (chN h j) 48) → (∀ q, q < a → g q = f q) →
      W p l e (rmk (4) (111 + 2 * h) (10 + 2700 * 10)) s m args below meth c H0 lc0 (chO h k - 1) (10 + 2700 * k) (MQ below (pw_Q K (fun v f' z => v = none ∧ z = a + 112 + 2 * h ∧ (∀ q, q < a → f' q = f q) ∧ zCh K f' a h)) args s (rmk (4) (111 + 2 * h) (10 + 2700 * 10)).cells (rmk (4) (111 + 2 * h) (10 + 2700 * 10)).slots (fun q => (pZ K).heap.size ≤ q)) (F0 m 15 ls []) := by
    intro d
    induction d with
    | zero =>
      intro k hk g gm H0 lc0 ls hl hz hS ga gb hgm hsh   hfr
      obtain rfl : k = 10 := by omega
      refine lv_iload_n hx hb d_Ch_init_15 rfl (lv_at hl 2 rfl) ?_
      refine lv_bipush (v := 10) hx hb d_Ch_init_16 (by decide) ?_
      refine lv_icmp_ge (tgt := 53) hx hb d_Ch_init_18 (by decide) (fun cw => ?_) (fun cw => ?_)
      · have h10 := chO_10 h
        exact pw_vret X hS hr ⟨rfl, by omega, hfr, ga, ⟨gm, gb, hgm⟩, hsh⟩ (show chO h 10 - 1 ≤ 111 + 2 * h by omega) (show 10 + 2700 * 10 ≤ 10 + 2700 * 10 by omega) d_Ch_init_53
      · exact absurd (Int32.le_refl _) cw
    | succ d ih =>
      intro k hk g gm H0 lc0 ls hl hz hS ga gb hgm hsh   hfr
      refine lv_iload_n hx hb d_Ch_init_15 rfl (lv_at hl 2 rfl) ?_
      refine lv_bipush (v := 10) hx hb d_Ch_init_16 (by decide) ?_
      refine lv_icmp_ge (tgt := 53) hx hb d_Ch_init_18 (by decide) (fun cw => ?_) (fun cw => ?_)
      · exact absurd cw (nI_ge (a := k) (b := 10) (by omega) (by omega))
      · have hs := chO_s h k (by omega)
        have h2 := chO_2 h k (by omega)
        have hle := chO_le h k (by omega)
        have hcn : chN h k ≤ 16 := by unfold chN; split <;> omega
        refine lv_aload_n hx hb d_Ch_init_21 rfl (lv_at hl 0 rfl) ?_
        refine pw_get X hS (ga) pc_Ch 0 (by decide) w_fl_Ch_11 rfl (v := .ref (a + 1)) rfl d_Ch_init_22 ?_
        refine lv_iload_n hx hb d_Ch_init_25 rfl (lv_at hl 2 rfl) ?_
        refine pw_new X hS pc_Py w_cl_Ch_9 w_ins_Py w_ini_Py (fs := [.null, .int 0]) (by decide) (show (chO h k - 1) + 1 ≤ 111 + 2 * h by omega) (show (10 + 2700 * k) + 2 ≤ 10 + 2700 * 10 by omega) d_Ch_init_26 hz (fun H1 hz1 hS1 => ?_)
        clear hS hz
        refine W.cs (cells' := ((chO h k - 1) + 1)) (slots' := ((10 + 2700 * k) + 2)) (show (chO h k - 1) + 1 = ((chO h k - 1) + 1) by omega) (show (10 + 2700 * k) + 2 = ((10 + 2700 * k) + 2) by omega) ?_
        replace hS1 : pw_S K (pw_up g (a + chO h k) (.inr (2, [.null, .int 0]))) _ _ := hS1
        refine lv_dup hx hb d_Ch_init_29 rfl ?_
        refine lv_iload_n hx hb d_Ch_init_30 rfl (lv_at hl 2 rfl) ?_
        refine lv_if_ne (tgt := 38) hx hb d_Ch_init_31 (by decide) (fun ck => ?_) (fun ck => ?_)
        · have hk0 : ¬ k = 0 := fun q => ck (by rw [q]; rfl)
          refine lv_bipush (v := 10) hx hb d_Ch_init_38 (by decide) ?_
          refine lv_iload_n hx hb d_Ch_init_40 rfl (lv_at hl 2 rfl) ?_
          refine lv_isub hx hb d_Ch_init_41 ?_
          refine lv_topi (fun y ey => ?_)
          obtain rfl : y = nI (chN h k) := by rw [ey, chN_k h hk0]; exact pk_sub (a := 10) (by omega)
          clear ey
          refine lv_iconst (v := 0) hx hb d_Ch_init_42 (by decide) ?_
          refine pw_callI X hS1 (As := [.int (nI (chN h k)), .int 0]) (rest := [.ref (a + chO h k), .int (nI k), .ref (a + 1)]) (c_Py_init l K (pw_up g (a + chO h k) (.inr (2, [.null, .int 0]))) (a + chO h k) (chN h k) 48 0 hcn (by decide) (pw_up_self _ _ _)) hz1 w_cd_Py_init w_ini_Py w_ml_Ch_15 w_im_Py_init rfl hd_Py_init rfl hl.1 (Nat.le_of_ble_eq_true rfl) d_Ch_init_43 ⟨Nat.le_of_ble_eq_true rfl, Nat.le_of_ble_eq_true rfl⟩ ⟨show ((chO h k - 1) + 1) + (1 + 2 * chN h k) ≤ 111 + 2 * h by omega, show ((10 + 2700 * k) + 2) + (chN h k + 163 * chN h k) ≤ 10 + 2700 * 10 by omega⟩ (fun v f1 H2 lc2 hp hS2 => ?_)
          refine W.cs (cells' := (((chO h k - 1) + 1) + (1 + 2 * chN h k))) (slots' := (((10 + 2700 * k) + 2) + (chN h k + 163 * chN h k))) (show ((chO h k - 1) + 1) + (1 + 2 * chN h k) = (((chO h k - 1) + 1) + (1 + 2 * chN h k)) by omega) (show ((10 + 2700 * k) + 2) + (chN h k + 163 * chN h k) = (((10 + 2700 * k) + 2) + (chN h k + 163 * chN h k)) by omega) ?_
          clear hS1 hz1
          obtain ⟨rfl, hz2, hk1, hN1⟩ := hp
          have hfq : ∀ q, q < a → f1 q = f q := fun q hq => (hk1 q (by omega)).trans ((pw_n1 (by omega)).trans (hfr q hq))
          have hsh1 : ∀ j, j < k → zPy K f1 (a + chO h j) (chN h j) 48 := fun j hj => (hsh j hj).mv (fun q h1 h2 => (hk1 q (by have hmo := And.intro (chO_m h k (by omega) j (by omega)) (chO_2 h j (by omega)); omega)).trans (pw_n1 (by have hmo := And.intro (chO_m h k (by omega) j (by omega)) (chO_2 h j (by omega)); omega)))
          have hA1_0 : f1 (a) = some (.inr (5, [.ref (a + 1), .int 0, .int 0])) := (hk1 _ (by omega)).trans ((pw_up_ne (by omega)).trans (ga))
          have hA1_1 : f1 (a + 1) = some (.inl (pE K 5, 10, .inr (.inr (.inr (.inr gm))))) := (hk1 _ (by omega)).trans ((pw_up_ne (by omega)).trans (gb))
          replace hz2 : _ = a + chO h k + 2 + 2 * chN h k := hz2
          clear hk1
          refine pw_ast X hS2 5 (r := (R_Py, F_Py, 2)) rfl (hA1_1) (hN1.1) rfl (vp_in_nI (by omega) (by omega)) d_Ch_init_46 (fun H3 lc3 hy3 hS3 => ?_)
          have hz3 := hy3.trans hz2; clear hy3 hS2 hz2
          replace hS3 : pw_S K (pw_up f1 (a + 1) (.inl (pE K 5, 10, .inr (.inr (.inr (.inr (va_up gm (nI k).toNatClampNeg (some (a + chO h k))))))))) _ _ := hS3
          refine lv_iinc (v := nI (k + 1)) (lv' := [(2, .int (nI (k + 1))), (0, .ref a), (1, .int (nI h))]) hx hb d_Ch_init_47 hl (k := 2) rfl (nI_succ k).symm (by decide) rfl (fun ls hl => ?_)
          refine lv_goto (tgt := 15) hx hb d_Ch_init_50 (by decide) ?_
          have ecl : (nI k).toNatClampNeg = k := nI_clamp (by omega)
          refine W.widen (k := chO h (k + 1) - 1) (n := 10 + 2700 * (k + 1)) (show (((chO h k - 1) + 1) + (1 + 2 * chN h k)) ≤ _ by omega) (show (((10 + 2700 * k) + 2) + (chN h k + 163 * chN h k)) ≤ _ by omega) ?_
          refine ih (k + 1) (by omega) _ (va_up gm (nI k).toNatClampNeg (some (a + chO h k))) _ _ ls (lv_sub hl [1, 2, 0] rfl) (by omega) hS3 ((pw_up_ne (by omega)).trans (hA1_0)) (pw_up_self _ _ _) (fun j hj => ?_) (fun j hj => ?_) (fun q hq => (pw_n1 (by omega)).trans (hfq q hq))
          · by_cases hjk : j = k
            · subst hjk; rw [ecl]; exact va_up_self _ _ _
            · rw [ecl, va_up_ne _ _ hjk]; exact hgm j (by omega)
          · by_cases hjk : j = k
            · subst hjk; exact hN1.mv (fun q h1 h2 => pw_n1 (by omega))
            · have hmo := And.intro (chO_m h k (by omega) j (by omega)) (chO_2 h j (by omega))
              exact (hsh1 j (by omega)).mv (fun q h1 h2 => pw_n1 (by omega))
        · have hk0 : k = 0 := (nI_eq (a := k) (b := 0) (by omega) (by omega)).mp ck
          refine lv_iload_n hx hb d_Ch_init_34 rfl (lv_at hl 1 rfl) ?_
          refine lv_goto (tgt := 42) hx hb d_Ch_init_35 (by decide) ?_
          refine lv_topi (fun y ey => ?_)
          obtain rfl : y = nI (chN h k) := by rw [ey, hk0]; rfl
          clear ey
          refine lv_iconst (v := 0) hx hb d_Ch_init_42 (by decide) ?_
          refine pw_callI X hS1 (As := [.int (nI (chN h k)), .int 0]) (rest := [.ref (a + chO h k), .int (nI k), .ref (a + 1)]) (c_Py_init l K (pw_up g (a + chO h k) (.inr (2, [.null, .int 0]))) (a + chO h k) (chN h k) 48 0 hcn (by decide) (pw_up_self _ _ _)) hz1 w_cd_Py_init w_ini_Py w_ml_Ch_15 w_im_Py_init rfl hd_Py_init rfl hl.1 (Nat.le_of_ble_eq_true rfl) d_Ch_init_43 ⟨Nat.le_of_ble_eq_true rfl, Nat.le_of_ble_eq_true rfl⟩ ⟨show ((chO h k - 1) + 1) + (1 + 2 * chN h k) ≤ 111 + 2 * h by omega, show ((10 + 2700 * k) + 2) + (chN h k + 163 * chN h k) ≤ 10 + 2700 * 10 by omega⟩ (fun v f1 H2 lc2 hp hS2 => ?_)
          refine W.cs (cells' := (((chO h k - 1) + 1) + (1 + 2 * chN h k))) (slots' := (((10 + 2700 * k) + 2) + (chN h k + 163 * chN h k))) (show ((chO h k - 1) + 1) + (1 + 2 * chN h k) = (((chO h k - 1) + 1) + (1 + 2 * chN h k)) by omega) (show ((10 + 2700 * k) + 2) + (chN h k + 163 * chN h k) = (((10 + 2700 * k) + 2) + (chN h k + 163 * chN h k)) by omega) ?_
          clear hS1 hz1
          obtain ⟨rfl, hz2, hk1, hN1⟩ := hp
          have hfq : ∀ q, q < a → f1 q = f q := fun q hq => (hk1 q (by omega)).trans ((pw_n1 (by omega)).trans (hfr q hq))
          have hsh1 : ∀ j, j < k → zPy K f1 (a + chO h j) (chN h j) 48 := fun j hj => (hsh j hj).mv (fun q h1 h2 => (hk1 q (by have hmo := And.intro (chO_m h k (by omega) j (by omega)) (chO_2 h j (by omega)); omega)).trans (pw_n1 (by have hmo := And.intro (chO_m h k (by omega) j (by omega)) (chO_2 h j (by omega)); omega)))
          have hA1_0 : f1 (a) = some (.inr (5, [.ref (a + 1), .int 0, .int 0])) := (hk1 _ (by omega)).trans ((pw_up_ne (by omega)).trans (ga))
          have hA1_1 : f1 (a + 1) = some (.inl (pE K 5, 10, .inr (.inr (.inr (.inr gm))))) := (hk1 _ (by omega)).trans ((pw_up_ne (by omega)).trans (gb))
          replace hz2 : _ = a + chO h k + 2 + 2 * chN h k := hz2
          clear hk1
          refine pw_ast X hS2 5 (r := (R_Py, F_Py, 2)) rfl (hA1_1) (hN1.1) rfl (vp_in_nI (by omega) (by omega)) d_Ch_init_46 (fun H3 lc3 hy3 hS3 => ?_)
          have hz3 := hy3.trans hz2; clear hy3 hS2 hz2
          replace hS3 : pw_S K (pw_up f1 (a + 1) (.inl (pE K 5, 10, .inr (.inr (.inr (.inr (va_up gm (nI k).toNatClampNeg (some (a + chO h k))))))))) _ _ := hS3
          refine lv_iinc (v := nI (k + 1)) (lv' := [(2, .int (nI (k + 1))), (0, .ref a), (1, .int (nI h))]) hx hb d_Ch_init_47 hl (k := 2) rfl (nI_succ k).symm (by decide) rfl (fun ls hl => ?_)
          refine lv_goto (tgt := 15) hx hb d_Ch_init_50 (by decide) ?_
          have ecl : (nI k).toNatClampNeg = k := nI_clamp (by omega)
          refine W.widen (k := chO h (k + 1) - 1) (n := 10 + 2700 * (k + 1)) (show (((chO h k - 1) + 1) + (1 + 2 * chN h k)) ≤ _ by omega) (show (((10 + 2700 * k) + 2) + (chN h k + 163 * chN h k)) ≤ _ by omega) ?_
          refine ih (k + 1) (by omega) _ (va_up gm (nI k).toNatClampNeg (some (a + chO h k))) _ _ ls (lv_sub hl [1, 2, 0] rfl) (by omega) hS3 ((pw_up_ne (by omega)).trans (hA1_0)) (pw_up_self _ _ _) (fun j hj => ?_) (fun j hj => ?_) (fun q hq => (pw_n1 (by omega)).trans (hfq q hq))
          · by_cases hjk : j = k
            · subst hjk; rw [ecl]; exact va_up_self _ _ _
            · rw [ecl, va_up_ne _ _ hjk]; exact hgm j (by omega)
          · by_cases hjk : j = k
            · subst hjk; exact hN1.mv (fun q h1 h2 => pw_n1 (by omega))
            · have hmo := And.intro (chO_m h k (by omega) j (by omega)) (chO_2 h j (by omega))
              exact (hsh1 j (by omega)).mv (fun q h1 h2 => pw_n1 (by omega))
  refine lv_aload_n hx hb d_Ch_init_0 rfl (lv_at hl 0 rfl) ?_
  refine pw_obj X w_ml_Ch_1 hl.1 d_Ch_init_1 ⟨Nat.le_of_ble_eq_true rfl, Nat.le_of_ble_eq_true rfl⟩ rfl ?_
  refine lv_aload_n hx hb d_Ch_init_4 rfl (lv_at hl 0 rfl) ?_
  refine lv_bipush (v := 10) hx hb d_Ch_init_5 (by decide) ?_
  refine pw_newq X hS w_cl_Ch_9 w_ao_Py 5 rfl (N' := 10) (by decide) (by decide) (by decide) (show 0 + 1 ≤ 111 + 2 * h by omega) (show 0 + 10 ≤ 10 + 2700 * 10 by omega) d_Ch_init_7 hz (fun H1 hz1 hS1 => ?_)
  clear hS hz
  refine W.cs (cells' := 1) (slots' := 10) rfl rfl ?_
  replace hS1 : pw_S K (pw_up f (a + 1) (.inl (pE K 5, 10, .inr (.inr (.inr (.inr (fun _ => none))))))) _ _ := hS1
  refine pw_putF X hS1 (v := .ref (a + 1)) ((pw_up_ne (by omega)).trans (ha)) pc_Ch 0 (by decide) w_fl_Ch_11 rfl rfl hin rfl rfl rfl (Nat.le_of_ble_eq_true rfl) d_Ch_init_10 (fun H2 lc2 hy2 hS2 => ?_)
  have hz2 := hy2.trans hz1; clear hy2 hS1 hz1
  replace hS2 : pw_S K (pw_up (pw_up f (a + 1) (.inl (pE K 5, 10, .inr (.inr (.inr (.inr (fun _ => none))))))) (a) (.inr (5, [.ref (a + 1), .int 0, .int 0]))) _ _ := hS2
  refine lv_iconst (v := 0) hx hb d_Ch_init_13 (by decide) ?_
  refine lv_istore_n (lv' := [(2, .int 0), (0, .ref a), (1, .int (nI h))]) hx hb d_Ch_init_14 rfl hl (by decide) rfl (fun ls hl => ?_)
  have h0 := chO_0 h
  refine W.widen (k := chO h 0 - 1) (n := 10 + 2700 * 0) (show 1 ≤ _ by omega) (show 10 ≤ _ by omega) ?_
  refine loop 10 0 (by omega) _ (fun _ => none) _ _ ls (lv_sub hl [1, 2, 0] rfl) (by omega) hS2 (pw_up_self _ _ _) ((pw_up_ne (by omega)).trans (pw_up_self _ _ _)) (fun j hj => absurd hj (Nat.not_lt_zero j)) (fun j hj => absurd hj (Nat.not_lt_zero j)) (fun q hq => pw_n2 (by omega) (by omega))
