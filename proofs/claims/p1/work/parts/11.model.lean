/-! THE REFERENCE: its one object and nine arrays (limb L, size Z, sign S, degree G, deep P, exact Ex, found O, text T, spare V) -/
def mo (K : pw_K) (f : pw_F) (a : Nat) (th wr : Int32) (L Z S G P Ex O T V : Nat → Int32) : Prop :=
  f a = some (.inr (11, [.int th, .ref (a + 1), .ref (a + 2), .ref (a + 3), .ref (a + 4), .ref (a + 5), .ref (a + 6), .ref (a + 7), .ref (a + 8), .int wr, .ref (a + 9)])) ∧ f (a + 1) = some (.inl (pE K 0, 163840, .inl L)) ∧ f (a + 2) = some (.inl (pE K 0, 160, .inl Z)) ∧ f (a + 3) = some (.inl (pE K 0, 160, .inl S)) ∧ f (a + 4) = some (.inl (pE K 0, 10, .inl G)) ∧ f (a + 5) = some (.inl (pE K 0, 16, .inl P)) ∧ f (a + 6) = some (.inl (pE K 2, 16, .inl Ex)) ∧ f (a + 7) = some (.inl (pE K 0, 2, .inl O)) ∧ f (a + 8) = some (.inl (pE K 0, 400, .inl T)) ∧ f (a + 9) = some (.inl (pE K 0, 2060, .inl V))
theorem mo.mv {f' : pw_F} {K : pw_K} {f : pw_F} {a : Nat} {th wr : Int32} {L Z S G P Ex O T V : Nat → Int32} (h : mo K f a th wr L Z S G P Ex O T V) (e : ∀ q, a ≤ q → q < a + 10 → f' q = f q) : mo K f' a th wr L Z S G P Ex O T V := by
  obtain ⟨h0, h1, h2, h3, h4, h5, h6, h7, h8, h9⟩ := h
  exact ⟨(e _ (by omega) (by omega)).trans h0, (e _ (by omega) (by omega)).trans h1, (e _ (by omega) (by omega)).trans h2, (e _ (by omega) (by omega)).trans h3, (e _ (by omega) (by omega)).trans h4, (e _ (by omega) (by omega)).trans h5, (e _ (by omega) (by omega)).trans h6, (e _ (by omega) (by omega)).trans h7, (e _ (by omega) (by omega)).trans h8, (e _ (by omega) (by omega)).trans h9⟩
theorem mo.uL {L' : Nat → Int32} {K : pw_K} {f : pw_F} {a : Nat} {th wr : Int32} {L Z S G P Ex O T V : Nat → Int32} (h : mo K f a th wr L Z S G P Ex O T V) : mo K (pw_up f (a + 1) (.inl (pE K 0, 163840, .inl L'))) a th wr L' Z S G P Ex O T V := by
  obtain ⟨h0, h1, h2, h3, h4, h5, h6, h7, h8, h9⟩ := h
  exact ⟨(pw_up_ne (by omega)).trans h0, pw_up_self _ _ _, (pw_up_ne (by omega)).trans h2, (pw_up_ne (by omega)).trans h3, (pw_up_ne (by omega)).trans h4, (pw_up_ne (by omega)).trans h5, (pw_up_ne (by omega)).trans h6, (pw_up_ne (by omega)).trans h7, (pw_up_ne (by omega)).trans h8, (pw_up_ne (by omega)).trans h9⟩
theorem mo.uZ {Z' : Nat → Int32} {K : pw_K} {f : pw_F} {a : Nat} {th wr : Int32} {L Z S G P Ex O T V : Nat → Int32} (h : mo K f a th wr L Z S G P Ex O T V) : mo K (pw_up f (a + 2) (.inl (pE K 0, 160, .inl Z'))) a th wr L Z' S G P Ex O T V := by
  obtain ⟨h0, h1, h2, h3, h4, h5, h6, h7, h8, h9⟩ := h
  exact ⟨(pw_up_ne (by omega)).trans h0, (pw_up_ne (by omega)).trans h1, pw_up_self _ _ _, (pw_up_ne (by omega)).trans h3, (pw_up_ne (by omega)).trans h4, (pw_up_ne (by omega)).trans h5, (pw_up_ne (by omega)).trans h6, (pw_up_ne (by omega)).trans h7, (pw_up_ne (by omega)).trans h8, (pw_up_ne (by omega)).trans h9⟩
theorem mo.uS {S' : Nat → Int32} {K : pw_K} {f : pw_F} {a : Nat} {th wr : Int32} {L Z S G P Ex O T V : Nat → Int32} (h : mo K f a th wr L Z S G P Ex O T V) : mo K (pw_up f (a + 3) (.inl (pE K 0, 160, .inl S'))) a th wr L Z S' G P Ex O T V := by
  obtain ⟨h0, h1, h2, h3, h4, h5, h6, h7, h8, h9⟩ := h
  exact ⟨(pw_up_ne (by omega)).trans h0, (pw_up_ne (by omega)).trans h1, (pw_up_ne (by omega)).trans h2, pw_up_self _ _ _, (pw_up_ne (by omega)).trans h4, (pw_up_ne (by omega)).trans h5, (pw_up_ne (by omega)).trans h6, (pw_up_ne (by omega)).trans h7, (pw_up_ne (by omega)).trans h8, (pw_up_ne (by omega)).trans h9⟩
theorem mo.uG {G' : Nat → Int32} {K : pw_K} {f : pw_F} {a : Nat} {th wr : Int32} {L Z S G P Ex O T V : Nat → Int32} (h : mo K f a th wr L Z S G P Ex O T V) : mo K (pw_up f (a + 4) (.inl (pE K 0, 10, .inl G'))) a th wr L Z S G' P Ex O T V := by
  obtain ⟨h0, h1, h2, h3, h4, h5, h6, h7, h8, h9⟩ := h
  exact ⟨(pw_up_ne (by omega)).trans h0, (pw_up_ne (by omega)).trans h1, (pw_up_ne (by omega)).trans h2, (pw_up_ne (by omega)).trans h3, pw_up_self _ _ _, (pw_up_ne (by omega)).trans h5, (pw_up_ne (by omega)).trans h6, (pw_up_ne (by omega)).trans h7, (pw_up_ne (by omega)).trans h8, (pw_up_ne (by omega)).trans h9⟩
theorem mo.uP {P' : Nat → Int32} {K : pw_K} {f : pw_F} {a : Nat} {th wr : Int32} {L Z S G P Ex O T V : Nat → Int32} (h : mo K f a th wr L Z S G P Ex O T V) : mo K (pw_up f (a + 5) (.inl (pE K 0, 16, .inl P'))) a th wr L Z S G P' Ex O T V := by
  obtain ⟨h0, h1, h2, h3, h4, h5, h6, h7, h8, h9⟩ := h
  exact ⟨(pw_up_ne (by omega)).trans h0, (pw_up_ne (by omega)).trans h1, (pw_up_ne (by omega)).trans h2, (pw_up_ne (by omega)).trans h3, (pw_up_ne (by omega)).trans h4, pw_up_self _ _ _, (pw_up_ne (by omega)).trans h6, (pw_up_ne (by omega)).trans h7, (pw_up_ne (by omega)).trans h8, (pw_up_ne (by omega)).trans h9⟩
theorem mo.uEx {Ex' : Nat → Int32} {K : pw_K} {f : pw_F} {a : Nat} {th wr : Int32} {L Z S G P Ex O T V : Nat → Int32} (h : mo K f a th wr L Z S G P Ex O T V) : mo K (pw_up f (a + 6) (.inl (pE K 2, 16, .inl Ex'))) a th wr L Z S G P Ex' O T V := by
  obtain ⟨h0, h1, h2, h3, h4, h5, h6, h7, h8, h9⟩ := h
  exact ⟨(pw_up_ne (by omega)).trans h0, (pw_up_ne (by omega)).trans h1, (pw_up_ne (by omega)).trans h2, (pw_up_ne (by omega)).trans h3, (pw_up_ne (by omega)).trans h4, (pw_up_ne (by omega)).trans h5, pw_up_self _ _ _, (pw_up_ne (by omega)).trans h7, (pw_up_ne (by omega)).trans h8, (pw_up_ne (by omega)).trans h9⟩
theorem mo.uO {O' : Nat → Int32} {K : pw_K} {f : pw_F} {a : Nat} {th wr : Int32} {L Z S G P Ex O T V : Nat → Int32} (h : mo K f a th wr L Z S G P Ex O T V) : mo K (pw_up f (a + 7) (.inl (pE K 0, 2, .inl O'))) a th wr L Z S G P Ex O' T V := by
  obtain ⟨h0, h1, h2, h3, h4, h5, h6, h7, h8, h9⟩ := h
  exact ⟨(pw_up_ne (by omega)).trans h0, (pw_up_ne (by omega)).trans h1, (pw_up_ne (by omega)).trans h2, (pw_up_ne (by omega)).trans h3, (pw_up_ne (by omega)).trans h4, (pw_up_ne (by omega)).trans h5, (pw_up_ne (by omega)).trans h6, pw_up_self _ _ _, (pw_up_ne (by omega)).trans h8, (pw_up_ne (by omega)).trans h9⟩
theorem mo.uT {T' : Nat → Int32} {K : pw_K} {f : pw_F} {a : Nat} {th wr : Int32} {L Z S G P Ex O T V : Nat → Int32} (h : mo K f a th wr L Z S G P Ex O T V) : mo K (pw_up f (a + 8) (.inl (pE K 0, 400, .inl T'))) a th wr L Z S G P Ex O T' V := by
  obtain ⟨h0, h1, h2, h3, h4, h5, h6, h7, h8, h9⟩ := h
  exact ⟨(pw_up_ne (by omega)).trans h0, (pw_up_ne (by omega)).trans h1, (pw_up_ne (by omega)).trans h2, (pw_up_ne (by omega)).trans h3, (pw_up_ne (by omega)).trans h4, (pw_up_ne (by omega)).trans h5, (pw_up_ne (by omega)).trans h6, (pw_up_ne (by omega)).trans h7, pw_up_self _ _ _, (pw_up_ne (by omega)).trans h9⟩
theorem mo.uV {V' : Nat → Int32} {K : pw_K} {f : pw_F} {a : Nat} {th wr : Int32} {L Z S G P Ex O T V : Nat → Int32} (h : mo K f a th wr L Z S G P Ex O T V) : mo K (pw_up f (a + 9) (.inl (pE K 0, 2060, .inl V'))) a th wr L Z S G P Ex O T V' := by
  obtain ⟨h0, h1, h2, h3, h4, h5, h6, h7, h8, h9⟩ := h
  exact ⟨(pw_up_ne (by omega)).trans h0, (pw_up_ne (by omega)).trans h1, (pw_up_ne (by omega)).trans h2, (pw_up_ne (by omega)).trans h3, (pw_up_ne (by omega)).trans h4, (pw_up_ne (by omega)).trans h5, (pw_up_ne (by omega)).trans h6, (pw_up_ne (by omega)).trans h7, (pw_up_ne (by omega)).trans h8, pw_up_self _ _ _⟩
theorem mo.uo {th' wr' : Int32} {K : pw_K} {f : pw_F} {a : Nat} {th wr : Int32} {L Z S G P Ex O T V : Nat → Int32} (h : mo K f a th wr L Z S G P Ex O T V) : mo K (pw_up f a (.inr (11, [.int th', .ref (a + 1), .ref (a + 2), .ref (a + 3), .ref (a + 4), .ref (a + 5), .ref (a + 6), .ref (a + 7), .ref (a + 8), .int wr', .ref (a + 9)]))) a th' wr' L Z S G P Ex O T V := by
  obtain ⟨h0, h1, h2, h3, h4, h5, h6, h7, h8, h9⟩ := h
  exact ⟨pw_up_self _ _ _, (pw_up_ne (by omega)).trans h1, (pw_up_ne (by omega)).trans h2, (pw_up_ne (by omega)).trans h3, (pw_up_ne (by omega)).trans h4, (pw_up_ne (by omega)).trans h5, (pw_up_ne (by omega)).trans h6, (pw_up_ne (by omega)).trans h7, (pw_up_ne (by omega)).trans h8, (pw_up_ne (by omega)).trans h9⟩
theorem d_Mo_init_0 : decode b_Mo_init 0 = .ok (.aload_n 0, 1) := by decide +kernel
theorem d_Mo_init_1 : decode b_Mo_init 1 = .ok (.invokespecial 1, 3) := by decide +kernel
theorem d_Mo_init_4 : decode b_Mo_init 4 = .ok (.aload_n 0, 1) := by decide +kernel
theorem d_Mo_init_5 : decode b_Mo_init 5 = .ok (.ldc 7, 2) := by decide +kernel
theorem d_Mo_init_7 : decode b_Mo_init 7 = .ok (.newarray .int, 2) := by decide +kernel
theorem d_Mo_init_9 : decode b_Mo_init 9 = .ok (.putfield 8, 3) := by decide +kernel
theorem d_Mo_init_12 : decode b_Mo_init 12 = .ok (.aload_n 0, 1) := by decide +kernel
theorem d_Mo_init_13 : decode b_Mo_init 13 = .ok (.sipush 160, 3) := by decide +kernel
theorem d_Mo_init_16 : decode b_Mo_init 16 = .ok (.newarray .int, 2) := by decide +kernel
theorem d_Mo_init_18 : decode b_Mo_init 18 = .ok (.putfield 14, 3) := by decide +kernel
theorem d_Mo_init_21 : decode b_Mo_init 21 = .ok (.aload_n 0, 1) := by decide +kernel
theorem d_Mo_init_22 : decode b_Mo_init 22 = .ok (.sipush 160, 3) := by decide +kernel
theorem d_Mo_init_25 : decode b_Mo_init 25 = .ok (.newarray .int, 2) := by decide +kernel
theorem d_Mo_init_27 : decode b_Mo_init 27 = .ok (.putfield 17, 3) := by decide +kernel
theorem d_Mo_init_30 : decode b_Mo_init 30 = .ok (.aload_n 0, 1) := by decide +kernel
theorem d_Mo_init_31 : decode b_Mo_init 31 = .ok (.bipush 10, 2) := by decide +kernel
theorem d_Mo_init_33 : decode b_Mo_init 33 = .ok (.newarray .int, 2) := by decide +kernel
theorem d_Mo_init_35 : decode b_Mo_init 35 = .ok (.putfield 20, 3) := by decide +kernel
theorem d_Mo_init_38 : decode b_Mo_init 38 = .ok (.aload_n 0, 1) := by decide +kernel
theorem d_Mo_init_39 : decode b_Mo_init 39 = .ok (.bipush 16, 2) := by decide +kernel
theorem d_Mo_init_41 : decode b_Mo_init 41 = .ok (.newarray .int, 2) := by decide +kernel
theorem d_Mo_init_43 : decode b_Mo_init 43 = .ok (.putfield 23, 3) := by decide +kernel
theorem d_Mo_init_46 : decode b_Mo_init 46 = .ok (.aload_n 0, 1) := by decide +kernel
theorem d_Mo_init_47 : decode b_Mo_init 47 = .ok (.bipush 16, 2) := by decide +kernel
theorem d_Mo_init_49 : decode b_Mo_init 49 = .ok (.newarray .boolean, 2) := by decide +kernel
theorem d_Mo_init_51 : decode b_Mo_init 51 = .ok (.putfield 26, 3) := by decide +kernel
theorem d_Mo_init_54 : decode b_Mo_init 54 = .ok (.aload_n 0, 1) := by decide +kernel
theorem d_Mo_init_55 : decode b_Mo_init 55 = .ok (.iconst 2, 1) := by decide +kernel
theorem d_Mo_init_56 : decode b_Mo_init 56 = .ok (.newarray .int, 2) := by decide +kernel
theorem d_Mo_init_58 : decode b_Mo_init 58 = .ok (.putfield 30, 3) := by decide +kernel
theorem d_Mo_init_61 : decode b_Mo_init 61 = .ok (.aload_n 0, 1) := by decide +kernel
theorem d_Mo_init_62 : decode b_Mo_init 62 = .ok (.sipush 400, 3) := by decide +kernel
theorem d_Mo_init_65 : decode b_Mo_init 65 = .ok (.newarray .int, 2) := by decide +kernel
theorem d_Mo_init_67 : decode b_Mo_init 67 = .ok (.putfield 33, 3) := by decide +kernel
theorem d_Mo_init_70 : decode b_Mo_init 70 = .ok (.aload_n 0, 1) := by decide +kernel
theorem d_Mo_init_71 : decode b_Mo_init 71 = .ok (.sipush 2060, 3) := by decide +kernel
theorem d_Mo_init_74 : decode b_Mo_init 74 = .ok (.newarray .int, 2) := by decide +kernel
theorem d_Mo_init_76 : decode b_Mo_init 76 = .ok (.putfield 36, 3) := by decide +kernel
theorem d_Mo_init_79 : decode b_Mo_init 79 = .ok (.iconst 0, 1) := by decide +kernel
theorem d_Mo_init_80 : decode b_Mo_init 80 = .ok (.istore_n 1, 1) := by decide +kernel
theorem d_Mo_init_81 : decode b_Mo_init 81 = .ok (.iload_n 1, 1) := by decide +kernel
theorem d_Mo_init_82 : decode b_Mo_init 82 = .ok (.bipush 10, 2) := by decide +kernel
theorem d_Mo_init_84 : decode b_Mo_init 84 = .ok (.if_icmp .ge 16, 3) := by decide +kernel
theorem d_Mo_init_87 : decode b_Mo_init 87 = .ok (.aload_n 0, 1) := by decide +kernel
theorem d_Mo_init_88 : decode b_Mo_init 88 = .ok (.getfield 20, 3) := by decide +kernel
theorem d_Mo_init_91 : decode b_Mo_init 91 = .ok (.iload_n 1, 1) := by decide +kernel
theorem d_Mo_init_92 : decode b_Mo_init 92 = .ok (.iconst (-1), 1) := by decide +kernel
theorem d_Mo_init_93 : decode b_Mo_init 93 = .ok (.iastore, 1) := by decide +kernel
theorem d_Mo_init_94 : decode b_Mo_init 94 = .ok (.iinc 1 1, 3) := by decide +kernel
theorem d_Mo_init_97 : decode b_Mo_init 97 = .ok (.goto (-16), 3) := by decide +kernel
theorem d_Mo_init_100 : decode b_Mo_init 100 = .ok (.return_, 1) := by decide +kernel
set_option maxHeartbeats 4000000 in
set_option maxRecDepth 100000 in
theorem c_Mo_init (l : Launch) (K : pw_K) (f : pw_F) (a : Nat) (ha : f a = some (.inr (11, [.int 0, .null, .null, .null, .null, .null, .null, .null, .null, .int 0, .null]))) : pw_C l K y_Mo_init b_Mo_init 2 none (rmk 2 9 170000) f [.ref a] (a + 1) (fun v f' z => v = none ∧ z = a + 10 ∧ (∀ q, q < a → f' q = f q) ∧ ∃ G : Nat → Int32, (∀ j, j < 10 → G j = -1) ∧ mo K f' a 0 0 (fun _ => 0) (fun _ => 0) (fun _ => 0) G (fun _ => 0) (fun _ => 0) (fun _ => 0) (fun _ => 0) (fun _ => 0)) := by
  refine pw_start (by decide) (Nat.le_of_ble_eq_true rfl) ?_
  intro p e s m args below meth c ls X hr hin hz hS hl
  have hl : lv_has ls 2 [(0, .ref a)] := hl
  have hx := X.1
  have hb := X.2.1
  generalize s.heap = H0 at hz hS ⊢
  generalize ([] : List Loc) = lc0 at hS ⊢
  have loop : ∀ (d k : Nat), k + d = 10 → ∀ (g : pw_F) (G : Nat → Int32) (H0 : Heap) (lc0 : List Loc) (ls : Array Slot), lv_has ls 2 [(0, .ref a), (1, .int (nI k))] → Array.size H0 = a + 10 → pw_S K g H0 lc0 → mo K g a 0 0 (fun _ => 0) (fun _ => 0) (fun _ => 0) G (fun _ => 0) (fun _ => 0) (fun _ => 0) (fun _ => 0) (fun _ => 0) → (∀ j, j < k → G j = -1) → (∀ q, q < a → g q = f q) → W p l e (rmk 2 9 170000) s m args below meth c H0 lc0 9 167010 (MQ below (pw_Q K (fun v f' z => v = none ∧ z = a + 10 ∧ (∀ q, q < a → f' q = f q) ∧ ∃ G : Nat → Int32, (∀ j, j < 10 → G j = -1) ∧ mo K f' a 0 0 (fun _ => 0) (fun _ => 0) (fun _ => 0) G (fun _ => 0) (fun _ => 0) (fun _ => 0) (fun _ => 0) (fun _ => 0))) args s (rmk 2 9 170000).cells (rmk 2 9 170000).slots (fun q => (pZ K).heap.size ≤ q)) (F0 m 81 ls []) := by
    intro d
    induction d with
    | zero =>
      intro k hk g G H0 lc0 ls hl hz hS hm hG hfr
      obtain rfl : k = 10 := by omega
      refine lv_iload_n hx hb d_Mo_init_81 rfl (lv_at hl 1 rfl) ?_
      refine lv_bipush (v := 10) hx hb d_Mo_init_82 (by decide) ?_
      refine lv_icmp_ge (tgt := 100) hx hb d_Mo_init_84 (by decide) (fun cw => ?_) (fun cw => ?_)
      · exact pw_vret X hS hr ⟨rfl, hz, hfr, G, hG, hm⟩ (show 9 ≤ 9 by omega) (show 167010 ≤ 170000 by omega) d_Mo_init_100
      · exact absurd (Int32.le_refl _) cw
    | succ d ih =>
      intro k hk g G H0 lc0 ls hl hz hS hm hG hfr
      refine lv_iload_n hx hb d_Mo_init_81 rfl (lv_at hl 1 rfl) ?_
      refine lv_bipush (v := 10) hx hb d_Mo_init_82 (by decide) ?_
      refine lv_icmp_ge (tgt := 100) hx hb d_Mo_init_84 (by decide) (fun cw => ?_) (fun cw => ?_)
      · exact absurd cw (nI_ge (a := k) (b := 10) (by omega) (by omega))
      · refine lv_aload_n hx hb d_Mo_init_87 rfl (lv_at hl 0 rfl) ?_
        refine pw_get X hS (hm.1) pc_Mo 4 (by decide) w_fl_Mo_20 rfl (v := .ref (a + 4)) rfl d_Mo_init_88 ?_
        refine lv_iload_n hx hb d_Mo_init_91 rfl (lv_at hl 1 rfl) ?_
        refine lv_iconst (v := -1) hx hb d_Mo_init_92 (by decide) ?_
        refine pw_ist X hS hm.2.2.2.2.1 (vp_in_nI (by omega) (by omega)) d_Mo_init_93 (fun H1 lc1 hy1 hS1 => ?_)
        have hz1 := hy1.trans hz; clear hy1
        have ecl : (nI k).toNatClampNeg = k := nI_clamp (by omega)
        refine lv_iinc (v := nI (k + 1)) (lv' := [(1, .int (nI (k + 1))), (0, .ref a)]) hx hb d_Mo_init_94 hl (k := 1) rfl (nI_succ k).symm (by decide) rfl (fun ls hl => ?_)
        refine lv_goto (tgt := 81) hx hb d_Mo_init_97 (by decide) ?_
        refine ih (k + 1) (by omega) _ (upd G (nI k).toNatClampNeg (-1)) _ _ ls (lv_sub hl [1, 0] rfl) hz1 hS1 hm.uG (fun j hj => ?_) (fun q hq => (pw_n1 (by omega)).trans (hfr q hq))
        by_cases hjk : j = k
        · subst hjk; rw [ecl]; exact pk_us
        · rw [ecl, pk_un hjk]; exact hG j (by omega)
  refine lv_aload_n hx hb d_Mo_init_0 rfl (lv_at hl 0 rfl) ?_
  refine pw_obj X w_ml_Mo_1 hl.1 d_Mo_init_1 ⟨Nat.le_of_ble_eq_true rfl, Nat.le_of_ble_eq_true rfl⟩ rfl ?_
  refine lv_aload_n hx hb d_Mo_init_4 rfl (lv_at hl 0 rfl) ?_
  refine pw_ldc X w_k_Mo_7 d_Mo_init_5 ?_
  refine pw_newa X hS (ty := .int) rfl w_ac_int 0 rfl rfl (N' := 163840) (a0 := (163840, .inl (fun _ => 0))) (fun _ => rfl) (by decide) (by decide) (by decide) (show 0 + 1 ≤ 9 by omega) (show 0 + 163840 ≤ 170000 by omega) d_Mo_init_7 hz (fun H1 hz1 hS1 => ?_)
  clear hS hz
  refine W.cs (cells' := 1) (slots' := 163840) rfl rfl ?_
  replace hS1 : pw_S K (pw_up f (a + 1) (.inl (pE K 0, 163840, .inl (fun _ => 0)))) _ _ := hS1
  refine pw_putF X hS1 (v := .ref (a + 1)) ((pw_up_ne (by omega)).trans (ha)) pc_Mo 1 (by decide) w_fl_Mo_8 rfl rfl hin rfl rfl rfl (Nat.le_of_ble_eq_true rfl) d_Mo_init_9 (fun H2 lc2 hy2 hS2 => ?_)
  have hz2 := hy2.trans hz1; clear hy2 hS1 hz1
  replace hS2 : pw_S K (pw_up (pw_up f (a + 1) (.inl (pE K 0, 163840, .inl (fun _ => 0)))) (a) (.inr (11, [.int 0, .ref (a + 1), .null, .null, .null, .null, .null, .null, .null, .int 0, .null]))) _ _ := hS2
  refine lv_aload_n hx hb d_Mo_init_12 rfl (lv_at hl 0 rfl) ?_
  refine lv_sipush (v := 160) hx hb d_Mo_init_13 (by decide) ?_
  refine pw_newa X hS2 (ty := .int) rfl w_ac_int 0 rfl rfl (N' := 160) (a0 := (160, .inl (fun _ => 0))) (fun _ => rfl) (by decide) (by decide) (by decide) (show 1 + 1 ≤ 9 by omega) (show 163840 + 160 ≤ 170000 by omega) d_Mo_init_16 hz2 (fun H3 hz3 hS3 => ?_)
  clear hS2 hz2
  refine W.cs (cells' := 2) (slots' := 164000) rfl rfl ?_
  replace hS3 : pw_S K (pw_up (pw_up (pw_up f (a + 1) (.inl (pE K 0, 163840, .inl (fun _ => 0)))) (a) (.inr (11, [.int 0, .ref (a + 1), .null, .null, .null, .null, .null, .null, .null, .int 0, .null]))) (a + 2) (.inl (pE K 0, 160, .inl (fun _ => 0)))) _ _ := hS3
  refine pw_putF X hS3 (v := .ref (a + 2)) ((pw_up_ne (by omega)).trans (pw_up_self _ _ _)) pc_Mo 2 (by decide) w_fl_Mo_14 rfl rfl hin rfl rfl rfl (Nat.le_of_ble_eq_true rfl) d_Mo_init_18 (fun H4 lc4 hy4 hS4 => ?_)
  have hz4 := hy4.trans hz3; clear hy4 hS3 hz3
  replace hS4 : pw_S K (pw_up (pw_up (pw_up (pw_up f (a + 1) (.inl (pE K 0, 163840, .inl (fun _ => 0)))) (a) (.inr (11, [.int 0, .ref (a + 1), .null, .null, .null, .null, .null, .null, .null, .int 0, .null]))) (a + 2) (.inl (pE K 0, 160, .inl (fun _ => 0)))) (a) (.inr (11, [.int 0, .ref (a + 1), .ref (a + 2), .null, .null, .null, .null, .null, .null, .int 0, .null]))) _ _ := hS4
  refine lv_aload_n hx hb d_Mo_init_21 rfl (lv_at hl 0 rfl) ?_
  refine lv_sipush (v := 160) hx hb d_Mo_init_22 (by decide) ?_
  refine pw_newa X hS4 (ty := .int) rfl w_ac_int 0 rfl rfl (N' := 160) (a0 := (160, .inl (fun _ => 0))) (fun _ => rfl) (by decide) (by decide) (by decide) (show 2 + 1 ≤ 9 by omega) (show 164000 + 160 ≤ 170000 by omega) d_Mo_init_25 hz4 (fun H5 hz5 hS5 => ?_)
  clear hS4 hz4
  refine W.cs (cells' := 3) (slots' := 164160) rfl rfl ?_
  replace hS5 : pw_S K (pw_up (pw_up (pw_up (pw_up (pw_up f (a + 1) (.inl (pE K 0, 163840, .inl (fun _ => 0)))) (a) (.inr (11, [.int 0, .ref (a + 1), .null, .null, .null, .null, .null, .null, .null, .int 0, .null]))) (a + 2) (.inl (pE K 0, 160, .inl (fun _ => 0)))) (a) (.inr (11, [.int 0, .ref (a + 1), .ref (a + 2), .null, .null, .null, .null, .null, .null, .int 0, .null]))) (a + 3) (.inl (pE K 0, 160, .inl (fun _ => 0)))) _ _ := hS5
  refine pw_putF X hS5 (v := .ref (a + 3)) ((pw_up_ne (by omega)).trans (pw_up_self _ _ _)) pc_Mo 3 (by decide) w_fl_Mo_17 rfl rfl hin rfl rfl rfl (Nat.le_of_ble_eq_true rfl) d_Mo_init_27 (fun H6 lc6 hy6 hS6 => ?_)
  have hz6 := hy6.trans hz5; clear hy6 hS5 hz5
  replace hS6 : pw_S K (pw_up (pw_up (pw_up (pw_up (pw_up (pw_up f (a + 1) (.inl (pE K 0, 163840, .inl (fun _ => 0)))) (a) (.inr (11, [.int 0, .ref (a + 1), .null, .null, .null, .null, .null, .null, .null, .int 0, .null]))) (a + 2) (.inl (pE K 0, 160, .inl (fun _ => 0)))) (a) (.inr (11, [.int 0, .ref (a + 1), .ref (a + 2), .null, .null, .null, .null, .null, .null, .int 0, .null]))) (a + 3) (.inl (pE K 0, 160, .inl (fun _ => 0)))) (a) (.inr (11, [.int 0, .ref (a + 1), .ref (a + 2), .ref (a + 3), .null, .null, .null, .null, .null, .int 0, .null]))) _ _ := hS6
  refine lv_aload_n hx hb d_Mo_init_30 rfl (lv_at hl 0 rfl) ?_
  refine lv_bipush (v := 10) hx hb d_Mo_init_31 (by decide) ?_
  refine pw_newa X hS6 (ty := .int) rfl w_ac_int 0 rfl rfl (N' := 10) (a0 := (10, .inl (fun _ => 0))) (fun _ => rfl) (by decide) (by decide) (by decide) (show 3 + 1 ≤ 9 by omega) (show 164160 + 10 ≤ 170000 by omega) d_Mo_init_33 hz6 (fun H7 hz7 hS7 => ?_)
  clear hS6 hz6
  refine W.cs (cells' := 4) (slots' := 164170) rfl rfl ?_
  replace hS7 : pw_S K (pw_up (pw_up (pw_up (pw_up (pw_up (pw_up (pw_up f (a + 1) (.inl (pE K 0, 163840, .inl (fun _ => 0)))) (a) (.inr (11, [.int 0, .ref (a + 1), .null, .null, .null, .null, .null, .null, .null, .int 0, .null]))) (a + 2) (.inl (pE K 0, 160, .inl (fun _ => 0)))) (a) (.inr (11, [.int 0, .ref (a + 1), .ref (a + 2), .null, .null, .null, .null, .null, .null, .int 0, .null]))) (a + 3) (.inl (pE K 0, 160, .inl (fun _ => 0)))) (a) (.inr (11, [.int 0, .ref (a + 1), .ref (a + 2), .ref (a + 3), .null, .null, .null, .null, .null, .int 0, .null]))) (a + 4) (.inl (pE K 0, 10, .inl (fun _ => 0)))) _ _ := hS7
  refine pw_putF X hS7 (v := .ref (a + 4)) ((pw_up_ne (by omega)).trans (pw_up_self _ _ _)) pc_Mo 4 (by decide) w_fl_Mo_20 rfl rfl hin rfl rfl rfl (Nat.le_of_ble_eq_true rfl) d_Mo_init_35 (fun H8 lc8 hy8 hS8 => ?_)
  have hz8 := hy8.trans hz7; clear hy8 hS7 hz7
  replace hS8 : pw_S K (pw_up (pw_up (pw_up (pw_up (pw_up (pw_up (pw_up (pw_up f (a + 1) (.inl (pE K 0, 163840, .inl (fun _ => 0)))) (a) (.inr (11, [.int 0, .ref (a + 1), .null, .null, .null, .null, .null, .null, .null, .int 0, .null]))) (a + 2) (.inl (pE K 0, 160, .inl (fun _ => 0)))) (a) (.inr (11, [.int 0, .ref (a + 1), .ref (a + 2), .null, .null, .null, .null, .null, .null, .int 0, .null]))) (a + 3) (.inl (pE K 0, 160, .inl (fun _ => 0)))) (a) (.inr (11, [.int 0, .ref (a + 1), .ref (a + 2), .ref (a + 3), .null, .null, .null, .null, .null, .int 0, .null]))) (a + 4) (.inl (pE K 0, 10, .inl (fun _ => 0)))) (a) (.inr (11, [.int 0, .ref (a + 1), .ref (a + 2), .ref (a + 3), .ref (a + 4), .null, .null, .null, .null, .int 0, .null]))) _ _ := hS8
  refine lv_aload_n hx hb d_Mo_init_38 rfl (lv_at hl 0 rfl) ?_
  refine lv_bipush (v := 16) hx hb d_Mo_init_39 (by decide) ?_
  refine pw_newa X hS8 (ty := .int) rfl w_ac_int 0 rfl rfl (N' := 16) (a0 := (16, .inl (fun _ => 0))) (fun _ => rfl) (by decide) (by decide) (by decide) (show 4 + 1 ≤ 9 by omega) (show 164170 + 16 ≤ 170000 by omega) d_Mo_init_41 hz8 (fun H9 hz9 hS9 => ?_)
  clear hS8 hz8
  refine W.cs (cells' := 5) (slots' := 164186) rfl rfl ?_
  replace hS9 : pw_S K (pw_up (pw_up (pw_up (pw_up (pw_up (pw_up (pw_up (pw_up (pw_up f (a + 1) (.inl (pE K 0, 163840, .inl (fun _ => 0)))) (a) (.inr (11, [.int 0, .ref (a + 1), .null, .null, .null, .null, .null, .null, .null, .int 0, .null]))) (a + 2) (.inl (pE K 0, 160, .inl (fun _ => 0)))) (a) (.inr (11, [.int 0, .ref (a + 1), .ref (a + 2), .null, .null, .null, .null, .null, .null, .int 0, .null]))) (a + 3) (.inl (pE K 0, 160, .inl (fun _ => 0)))) (a) (.inr (11, [.int 0, .ref (a + 1), .ref (a + 2), .ref (a + 3), .null, .null, .null, .null, .null, .int 0, .null]))) (a + 4) (.inl (pE K 0, 10, .inl (fun _ => 0)))) (a) (.inr (11, [.int 0, .ref (a + 1), .ref (a + 2), .ref (a + 3), .ref (a + 4), .null, .null, .null, .null, .int 0, .null]))) (a + 5) (.inl (pE K 0, 16, .inl (fun _ => 0)))) _ _ := hS9
  refine pw_putF X hS9 (v := .ref (a + 5)) ((pw_up_ne (by omega)).trans (pw_up_self _ _ _)) pc_Mo 5 (by decide) w_fl_Mo_23 rfl rfl hin rfl rfl rfl (Nat.le_of_ble_eq_true rfl) d_Mo_init_43 (fun H10 lc10 hy10 hS10 => ?_)
  have hz10 := hy10.trans hz9; clear hy10 hS9 hz9
  replace hS10 : pw_S K (pw_up (pw_up (pw_up (pw_up (pw_up (pw_up (pw_up (pw_up (pw_up (pw_up f (a + 1) (.inl (pE K 0, 163840, .inl (fun _ => 0)))) (a) (.inr (11, [.int 0, .ref (a + 1), .null, .null, .null, .null, .null, .null, .null, .int 0, .null]))) (a + 2) (.inl (pE K 0, 160, .inl (fun _ => 0)))) (a) (.inr (11, [.int 0, .ref (a + 1), .ref (a + 2), .null, .null, .null, .null, .null, .null, .int 0, .null]))) (a + 3) (.inl (pE K 0, 160, .inl (fun _ => 0)))) (a) (.inr (11, [.int 0, .ref (a + 1), .ref (a + 2), .ref (a + 3), .null, .null, .null, .null, .null, .int 0, .null]))) (a + 4) (.inl (pE K 0, 10, .inl (fun _ => 0)))) (a) (.inr (11, [.int 0, .ref (a + 1), .ref (a + 2), .ref (a + 3), .ref (a + 4), .null, .null, .null, .null, .int 0, .null]))) (a + 5) (.inl (pE K 0, 16, .inl (fun _ => 0)))) (a) (.inr (11, [.int 0, .ref (a + 1), .ref (a + 2), .ref (a + 3), .ref (a + 4), .ref (a + 5), .null, .null, .null, .int 0, .null]))) _ _ := hS10
  refine lv_aload_n hx hb d_Mo_init_46 rfl (lv_at hl 0 rfl) ?_
  refine lv_bipush (v := 16) hx hb d_Mo_init_47 (by decide) ?_
  refine pw_newa X hS10 (ty := .boolean) rfl w_ac_boolean 2 rfl rfl (N' := 16) (a0 := (16, .inl (fun _ => 0))) (fun _ => rfl) (by decide) (by decide) (by decide) (show 5 + 1 ≤ 9 by omega) (show 164186 + 16 ≤ 170000 by omega) d_Mo_init_49 hz10 (fun H11 hz11 hS11 => ?_)
  clear hS10 hz10
  refine W.cs (cells' := 6) (slots' := 164202) rfl rfl ?_
  replace hS11 : pw_S K (pw_up (pw_up (pw_up (pw_up (pw_up (pw_up (pw_up (pw_up (pw_up (pw_up (pw_up f (a + 1) (.inl (pE K 0, 163840, .inl (fun _ => 0)))) (a) (.inr (11, [.int 0, .ref (a + 1), .null, .null, .null, .null, .null, .null, .null, .int 0, .null]))) (a + 2) (.inl (pE K 0, 160, .inl (fun _ => 0)))) (a) (.inr (11, [.int 0, .ref (a + 1), .ref (a + 2), .null, .null, .null, .null, .null, .null, .int 0, .null]))) (a + 3) (.inl (pE K 0, 160, .inl (fun _ => 0)))) (a) (.inr (11, [.int 0, .ref (a + 1), .ref (a + 2), .ref (a + 3), .null, .null, .null, .null, .null, .int 0, .null]))) (a + 4) (.inl (pE K 0, 10, .inl (fun _ => 0)))) (a) (.inr (11, [.int 0, .ref (a + 1), .ref (a + 2), .ref (a + 3), .ref (a + 4), .null, .null, .null, .null, .int 0, .null]))) (a + 5) (.inl (pE K 0, 16, .inl (fun _ => 0)))) (a) (.inr (11, [.int 0, .ref (a + 1), .ref (a + 2), .ref (a + 3), .ref (a + 4), .ref (a + 5), .null, .null, .null, .int 0, .null]))) (a + 6) (.inl (pE K 2, 16, .inl (fun _ => 0)))) _ _ := hS11
  refine pw_putF X hS11 (v := .ref (a + 6)) ((pw_up_ne (by omega)).trans (pw_up_self _ _ _)) pc_Mo 6 (by decide) w_fl_Mo_26 rfl rfl hin rfl rfl rfl (Nat.le_of_ble_eq_true rfl) d_Mo_init_51 (fun H12 lc12 hy12 hS12 => ?_)
  have hz12 := hy12.trans hz11; clear hy12 hS11 hz11
  replace hS12 : pw_S K (pw_up (pw_up (pw_up (pw_up (pw_up (pw_up (pw_up (pw_up (pw_up (pw_up (pw_up (pw_up f (a + 1) (.inl (pE K 0, 163840, .inl (fun _ => 0)))) (a) (.inr (11, [.int 0, .ref (a + 1), .null, .null, .null, .null, .null, .null, .null, .int 0, .null]))) (a + 2) (.inl (pE K 0, 160, .inl (fun _ => 0)))) (a) (.inr (11, [.int 0, .ref (a + 1), .ref (a + 2), .null, .null, .null, .null, .null, .null, .int 0, .null]))) (a + 3) (.inl (pE K 0, 160, .inl (fun _ => 0)))) (a) (.inr (11, [.int 0, .ref (a + 1), .ref (a + 2), .ref (a + 3), .null, .null, .null, .null, .null, .int 0, .null]))) (a + 4) (.inl (pE K 0, 10, .inl (fun _ => 0)))) (a) (.inr (11, [.int 0, .ref (a + 1), .ref (a + 2), .ref (a + 3), .ref (a + 4), .null, .null, .null, .null, .int 0, .null]))) (a + 5) (.inl (pE K 0, 16, .inl (fun _ => 0)))) (a) (.inr (11, [.int 0, .ref (a + 1), .ref (a + 2), .ref (a + 3), .ref (a + 4), .ref (a + 5), .null, .null, .null, .int 0, .null]))) (a + 6) (.inl (pE K 2, 16, .inl (fun _ => 0)))) (a) (.inr (11, [.int 0, .ref (a + 1), .ref (a + 2), .ref (a + 3), .ref (a + 4), .ref (a + 5), .ref (a + 6), .null, .null, .int 0, .null]))) _ _ := hS12
  refine lv_aload_n hx hb d_Mo_init_54 rfl (lv_at hl 0 rfl) ?_
  refine lv_iconst (v := 2) hx hb d_Mo_init_55 (by decide) ?_
  refine pw_newa X hS12 (ty := .int) rfl w_ac_int 0 rfl rfl (N' := 2) (a0 := (2, .inl (fun _ => 0))) (fun _ => rfl) (by decide) (by decide) (by decide) (show 6 + 1 ≤ 9 by omega) (show 164202 + 2 ≤ 170000 by omega) d_Mo_init_56 hz12 (fun H13 hz13 hS13 => ?_)
  clear hS12 hz12
  refine W.cs (cells' := 7) (slots' := 164204) rfl rfl ?_
  replace hS13 : pw_S K (pw_up (pw_up (pw_up (pw_up (pw_up (pw_up (pw_up (pw_up (pw_up (pw_up (pw_up (pw_up (pw_up f (a + 1) (.inl (pE K 0, 163840, .inl (fun _ => 0)))) (a) (.inr (11, [.int 0, .ref (a + 1), .null, .null, .null, .null, .null, .null, .null, .int 0, .null]))) (a + 2) (.inl (pE K 0, 160, .inl (fun _ => 0)))) (a) (.inr (11, [.int 0, .ref (a + 1), .ref (a + 2), .null, .null, .null, .null, .null, .null, .int 0, .null]))) (a + 3) (.inl (pE K 0, 160, .inl (fun _ => 0)))) (a) (.inr (11, [.int 0, .ref (a + 1), .ref (a + 2), .ref (a + 3), .null, .null, .null, .null, .null, .int 0, .null]))) (a + 4) (.inl (pE K 0, 10, .inl (fun _ => 0)))) (a) (.inr (11, [.int 0, .ref (a + 1), .ref (a + 2), .ref (a + 3), .ref (a + 4), .null, .null, .null, .null, .int 0, .null]))) (a + 5) (.inl (pE K 0, 16, .inl (fun _ => 0)))) (a) (.inr (11, [.int 0, .ref (a + 1), .ref (a + 2), .ref (a + 3), .ref (a + 4), .ref (a + 5), .null, .null, .null, .int 0, .null]))) (a + 6) (.inl (pE K 2, 16, .inl (fun _ => 0)))) (a) (.inr (11, [.int 0, .ref (a + 1), .ref (a + 2), .ref (a + 3), .ref (a + 4), .ref (a + 5), .ref (a + 6), .null, .null, .int 0, .null]))) (a + 7) (.inl (pE K 0, 2, .inl (fun _ => 0)))) _ _ := hS13
  refine pw_putF X hS13 (v := .ref (a + 7)) ((pw_up_ne (by omega)).trans (pw_up_self _ _ _)) pc_Mo 7 (by decide) w_fl_Mo_30 rfl rfl hin rfl rfl rfl (Nat.le_of_ble_eq_true rfl) d_Mo_init_58 (fun H14 lc14 hy14 hS14 => ?_)
  have hz14 := hy14.trans hz13; clear hy14 hS13 hz13
  replace hS14 : pw_S K (pw_up (pw_up (pw_up (pw_up (pw_up (pw_up (pw_up (pw_up (pw_up (pw_up (pw_up (pw_up (pw_up (pw_up f (a + 1) (.inl (pE K 0, 163840, .inl (fun _ => 0)))) (a) (.inr (11, [.int 0, .ref (a + 1), .null, .null, .null, .null, .null, .null, .null, .int 0, .null]))) (a + 2) (.inl (pE K 0, 160, .inl (fun _ => 0)))) (a) (.inr (11, [.int 0, .ref (a + 1), .ref (a + 2), .null, .null, .null, .null, .null, .null, .int 0, .null]))) (a + 3) (.inl (pE K 0, 160, .inl (fun _ => 0)))) (a) (.inr (11, [.int 0, .ref (a + 1), .ref (a + 2), .ref (a + 3), .null, .null, .null, .null, .null, .int 0, .null]))) (a + 4) (.inl (pE K 0, 10, .inl (fun _ => 0)))) (a) (.inr (11, [.int 0, .ref (a + 1), .ref (a + 2), .ref (a + 3), .ref (a + 4), .null, .null, .null, .null, .int 0, .null]))) (a + 5) (.inl (pE K 0, 16, .inl (fun _ => 0)))) (a) (.inr (11, [.int 0, .ref (a + 1), .ref (a + 2), .ref (a + 3), .ref (a + 4), .ref (a + 5), .null, .null, .null, .int 0, .null]))) (a + 6) (.inl (pE K 2, 16, .inl (fun _ => 0)))) (a) (.inr (11, [.int 0, .ref (a + 1), .ref (a + 2), .ref (a + 3), .ref (a + 4), .ref (a + 5), .ref (a + 6), .null, .null, .int 0, .null]))) (a + 7) (.inl (pE K 0, 2, .inl (fun _ => 0)))) (a) (.inr (11, [.int 0, .ref (a + 1), .ref (a + 2), .ref (a + 3), .ref (a + 4), .ref (a + 5), .ref (a + 6), .ref (a + 7), .null, .int 0, .null]))) _ _ := hS14
  refine lv_aload_n hx hb d_Mo_init_61 rfl (lv_at hl 0 rfl) ?_
  refine lv_sipush (v := 400) hx hb d_Mo_init_62 (by decide) ?_
  refine pw_newa X hS14 (ty := .int) rfl w_ac_int 0 rfl rfl (N' := 400) (a0 := (400, .inl (fun _ => 0))) (fun _ => rfl) (by decide) (by decide) (by decide) (show 7 + 1 ≤ 9 by omega) (show 164204 + 400 ≤ 170000 by omega) d_Mo_init_65 hz14 (fun H15 hz15 hS15 => ?_)
  clear hS14 hz14
  refine W.cs (cells' := 8) (slots' := 164604) rfl rfl ?_
  replace hS15 : pw_S K (pw_up (pw_up (pw_up (pw_up (pw_up (pw_up (pw_up (pw_up (pw_up (pw_up (pw_up (pw_up (pw_up (pw_up (pw_up f (a + 1) (.inl (pE K 0, 163840, .inl (fun _ => 0)))) (a) (.inr (11, [.int 0, .ref (a + 1), .null, .null, .null, .null, .null, .null, .null, .int 0, .null]))) (a + 2) (.inl (pE K 0, 160, .inl (fun _ => 0)))) (a) (.inr (11, [.int 0, .ref (a + 1), .ref (a + 2), .null, .null, .null, .null, .null, .null, .int 0, .null]))) (a + 3) (.inl (pE K 0, 160, .inl (fun _ => 0)))) (a) (.inr (11, [.int 0, .ref (a + 1), .ref (a + 2), .ref (a + 3), .null, .null, .null, .null, .null, .int 0, .null]))) (a + 4) (.inl (pE K 0, 10, .inl (fun _ => 0)))) (a) (.inr (11, [.int 0, .ref (a + 1), .ref (a + 2), .ref (a + 3), .ref (a + 4), .null, .null, .null, .null, .int 0, .null]))) (a + 5) (.inl (pE K 0, 16, .inl (fun _ => 0)))) (a) (.inr (11, [.int 0, .ref (a + 1), .ref (a + 2), .ref (a + 3), .ref (a + 4), .ref (a + 5), .null, .null, .null, .int 0, .null]))) (a + 6) (.inl (pE K 2, 16, .inl (fun _ => 0)))) (a) (.inr (11, [.int 0, .ref (a + 1), .ref (a + 2), .ref (a + 3), .ref (a + 4), .ref (a + 5), .ref (a + 6), .null, .null, .int 0, .null]))) (a + 7) (.inl (pE K 0, 2, .inl (fun _ => 0)))) (a) (.inr (11, [.int 0, .ref (a + 1), .ref (a + 2), .ref (a + 3), .ref (a + 4), .ref (a + 5), .ref (a + 6), .ref (a + 7), .null, .int 0, .null]))) (a + 8) (.inl (pE K 0, 400, .inl (fun _ => 0)))) _ _ := hS15
  refine pw_putF X hS15 (v := .ref (a + 8)) ((pw_up_ne (by omega)).trans (pw_up_self _ _ _)) pc_Mo 8 (by decide) w_fl_Mo_33 rfl rfl hin rfl rfl rfl (Nat.le_of_ble_eq_true rfl) d_Mo_init_67 (fun H16 lc16 hy16 hS16 => ?_)
  have hz16 := hy16.trans hz15; clear hy16 hS15 hz15
  replace hS16 : pw_S K (pw_up (pw_up (pw_up (pw_up (pw_up (pw_up (pw_up (pw_up (pw_up (pw_up (pw_up (pw_up (pw_up (pw_up (pw_up (pw_up f (a + 1) (.inl (pE K 0, 163840, .inl (fun _ => 0)))) (a) (.inr (11, [.int 0, .ref (a + 1), .null, .null, .null, .null, .null, .null, .null, .int 0, .null]))) (a + 2) (.inl (pE K 0, 160, .inl (fun _ => 0)))) (a) (.inr (11, [.int 0, .ref (a + 1), .ref (a + 2), .null, .null, .null, .null, .null, .null, .int 0, .null]))) (a + 3) (.inl (pE K 0, 160, .inl (fun _ => 0)))) (a) (.inr (11, [.int 0, .ref (a + 1), .ref (a + 2), .ref (a + 3), .null, .null, .null, .null, .null, .int 0, .null]))) (a + 4) (.inl (pE K 0, 10, .inl (fun _ => 0)))) (a) (.inr (11, [.int 0, .ref (a + 1), .ref (a + 2), .ref (a + 3), .ref (a + 4), .null, .null, .null, .null, .int 0, .null]))) (a + 5) (.inl (pE K 0, 16, .inl (fun _ => 0)))) (a) (.inr (11, [.int 0, .ref (a + 1), .ref (a + 2), .ref (a + 3), .ref (a + 4), .ref (a + 5), .null, .null, .null, .int 0, .null]))) (a + 6) (.inl (pE K 2, 16, .inl (fun _ => 0)))) (a) (.inr (11, [.int 0, .ref (a + 1), .ref (a + 2), .ref (a + 3), .ref (a + 4), .ref (a + 5), .ref (a + 6), .null, .null, .int 0, .null]))) (a + 7) (.inl (pE K 0, 2, .inl (fun _ => 0)))) (a) (.inr (11, [.int 0, .ref (a + 1), .ref (a + 2), .ref (a + 3), .ref (a + 4), .ref (a + 5), .ref (a + 6), .ref (a + 7), .null, .int 0, .null]))) (a + 8) (.inl (pE K 0, 400, .inl (fun _ => 0)))) (a) (.inr (11, [.int 0, .ref (a + 1), .ref (a + 2), .ref (a + 3), .ref (a + 4), .ref (a + 5), .ref (a + 6), .ref (a + 7), .ref (a + 8), .int 0, .null]))) _ _ := hS16
  refine lv_aload_n hx hb d_Mo_init_70 rfl (lv_at hl 0 rfl) ?_
  refine lv_sipush (v := 2060) hx hb d_Mo_init_71 (by decide) ?_
  refine pw_newa X hS16 (ty := .int) rfl w_ac_int 0 rfl rfl (N' := 2060) (a0 := (2060, .inl (fun _ => 0))) (fun _ => rfl) (by decide) (by decide) (by decide) (show 8 + 1 ≤ 9 by omega) (show 164604 + 2060 ≤ 170000 by omega) d_Mo_init_74 hz16 (fun H17 hz17 hS17 => ?_)
  clear hS16 hz16
  refine W.cs (cells' := 9) (slots' := 166664) rfl rfl ?_
  replace hS17 : pw_S K (pw_up (pw_up (pw_up (pw_up (pw_up (pw_up (pw_up (pw_up (pw_up (pw_up (pw_up (pw_up (pw_up (pw_up (pw_up (pw_up (pw_up f (a + 1) (.inl (pE K 0, 163840, .inl (fun _ => 0)))) (a) (.inr (11, [.int 0, .ref (a + 1), .null, .null, .null, .null, .null, .null, .null, .int 0, .null]))) (a + 2) (.inl (pE K 0, 160, .inl (fun _ => 0)))) (a) (.inr (11, [.int 0, .ref (a + 1), .ref (a + 2), .null, .null, .null, .null, .null, .null, .int 0, .null]))) (a + 3) (.inl (pE K 0, 160, .inl (fun _ => 0)))) (a) (.inr (11, [.int 0, .ref (a + 1), .ref (a + 2), .ref (a + 3), .null, .null, .null, .null, .null, .int 0, .null]))) (a + 4) (.inl (pE K 0, 10, .inl (fun _ => 0)))) (a) (.inr (11, [.int 0, .ref (a + 1), .ref (a + 2), .ref (a + 3), .ref (a + 4), .null, .null, .null, .null, .int 0, .null]))) (a + 5) (.inl (pE K 0, 16, .inl (fun _ => 0)))) (a) (.inr (11, [.int 0, .ref (a + 1), .ref (a + 2), .ref (a + 3), .ref (a + 4), .ref (a + 5), .null, .null, .null, .int 0, .null]))) (a + 6) (.inl (pE K 2, 16, .inl (fun _ => 0)))) (a) (.inr (11, [.int 0, .ref (a + 1), .ref (a + 2), .ref (a + 3), .ref (a + 4), .ref (a + 5), .ref (a + 6), .null, .null, .int 0, .null]))) (a + 7) (.inl (pE K 0, 2, .inl (fun _ => 0)))) (a) (.inr (11, [.int 0, .ref (a + 1), .ref (a + 2), .ref (a + 3), .ref (a + 4), .ref (a + 5), .ref (a + 6), .ref (a + 7), .null, .int 0, .null]))) (a + 8) (.inl (pE K 0, 400, .inl (fun _ => 0)))) (a) (.inr (11, [.int 0, .ref (a + 1), .ref (a + 2), .ref (a + 3), .ref (a + 4), .ref (a + 5), .ref (a + 6), .ref (a + 7), .ref (a + 8), .int 0, .null]))) (a + 9) (.inl (pE K 0, 2060, .inl (fun _ => 0)))) _ _ := hS17
  refine pw_putF X hS17 (v := .ref (a + 9)) ((pw_up_ne (by omega)).trans (pw_up_self _ _ _)) pc_Mo 10 (by decide) w_fl_Mo_36 rfl rfl hin rfl rfl rfl (Nat.le_of_ble_eq_true rfl) d_Mo_init_76 (fun H18 lc18 hy18 hS18 => ?_)
  have hz18 := hy18.trans hz17; clear hy18 hS17 hz17
  replace hS18 : pw_S K (pw_up (pw_up (pw_up (pw_up (pw_up (pw_up (pw_up (pw_up (pw_up (pw_up (pw_up (pw_up (pw_up (pw_up (pw_up (pw_up (pw_up (pw_up f (a + 1) (.inl (pE K 0, 163840, .inl (fun _ => 0)))) (a) (.inr (11, [.int 0, .ref (a + 1), .null, .null, .null, .null, .null, .null, .null, .int 0, .null]))) (a + 2) (.inl (pE K 0, 160, .inl (fun _ => 0)))) (a) (.inr (11, [.int 0, .ref (a + 1), .ref (a + 2), .null, .null, .null, .null, .null, .null, .int 0, .null]))) (a + 3) (.inl (pE K 0, 160, .inl (fun _ => 0)))) (a) (.inr (11, [.int 0, .ref (a + 1), .ref (a + 2), .ref (a + 3), .null, .null, .null, .null, .null, .int 0, .null]))) (a + 4) (.inl (pE K 0, 10, .inl (fun _ => 0)))) (a) (.inr (11, [.int 0, .ref (a + 1), .ref (a + 2), .ref (a + 3), .ref (a + 4), .null, .null, .null, .null, .int 0, .null]))) (a + 5) (.inl (pE K 0, 16, .inl (fun _ => 0)))) (a) (.inr (11, [.int 0, .ref (a + 1), .ref (a + 2), .ref (a + 3), .ref (a + 4), .ref (a + 5), .null, .null, .null, .int 0, .null]))) (a + 6) (.inl (pE K 2, 16, .inl (fun _ => 0)))) (a) (.inr (11, [.int 0, .ref (a + 1), .ref (a + 2), .ref (a + 3), .ref (a + 4), .ref (a + 5), .ref (a + 6), .null, .null, .int 0, .null]))) (a + 7) (.inl (pE K 0, 2, .inl (fun _ => 0)))) (a) (.inr (11, [.int 0, .ref (a + 1), .ref (a + 2), .ref (a + 3), .ref (a + 4), .ref (a + 5), .ref (a + 6), .ref (a + 7), .null, .int 0, .null]))) (a + 8) (.inl (pE K 0, 400, .inl (fun _ => 0)))) (a) (.inr (11, [.int 0, .ref (a + 1), .ref (a + 2), .ref (a + 3), .ref (a + 4), .ref (a + 5), .ref (a + 6), .ref (a + 7), .ref (a + 8), .int 0, .null]))) (a + 9) (.inl (pE K 0, 2060, .inl (fun _ => 0)))) (a) (.inr (11, [.int 0, .ref (a + 1), .ref (a + 2), .ref (a + 3), .ref (a + 4), .ref (a + 5), .ref (a + 6), .ref (a + 7), .ref (a + 8), .int 0, .ref (a + 9)]))) _ _ := hS18
  refine lv_iconst (v := 0) hx hb d_Mo_init_79 (by decide) ?_
  refine lv_istore_n (lv' := [(1, .int 0), (0, .ref a)]) hx hb d_Mo_init_80 rfl hl (by decide) rfl (fun ls hl => ?_)
  refine W.widen (k := 9) (n := 167010) (show 9 ≤ _ by omega) (show 166664 ≤ _ by omega) ?_
  refine loop 10 0 (by omega) _ (fun _ => 0) _ _ ls (lv_sub hl [1, 0] rfl) hz18 hS18 ⟨(pw_up_self _ _ _), ((pw_up_ne (by omega)).trans ((pw_up_ne (by omega)).trans ((pw_up_ne (by omega)).trans ((pw_up_ne (by omega)).trans ((pw_up_ne (by omega)).trans ((pw_up_ne (by omega)).trans ((pw_up_ne (by omega)).trans ((pw_up_ne (by omega)).trans ((pw_up_ne (by omega)).trans ((pw_up_ne (by omega)).trans ((pw_up_ne (by omega)).trans ((pw_up_ne (by omega)).trans ((pw_up_ne (by omega)).trans ((pw_up_ne (by omega)).trans ((pw_up_ne (by omega)).trans ((pw_up_ne (by omega)).trans ((pw_up_ne (by omega)).trans (pw_up_self _ _ _)))))))))))))))))), ((pw_up_ne (by omega)).trans ((pw_up_ne (by omega)).trans ((pw_up_ne (by omega)).trans ((pw_up_ne (by omega)).trans ((pw_up_ne (by omega)).trans ((pw_up_ne (by omega)).trans ((pw_up_ne (by omega)).trans ((pw_up_ne (by omega)).trans ((pw_up_ne (by omega)).trans ((pw_up_ne (by omega)).trans ((pw_up_ne (by omega)).trans ((pw_up_ne (by omega)).trans ((pw_up_ne (by omega)).trans ((pw_up_ne (by omega)).trans ((pw_up_ne (by omega)).trans (pw_up_self _ _ _)))))))))))))))), ((pw_up_ne (by omega)).trans ((pw_up_ne (by omega)).trans ((pw_up_ne (by omega)).trans ((pw_up_ne (by omega)).trans ((pw_up_ne (by omega)).trans ((pw_up_ne (by omega)).trans ((pw_up_ne (by omega)).trans ((pw_up_ne (by omega)).trans ((pw_up_ne (by omega)).trans ((pw_up_ne (by omega)).trans ((pw_up_ne (by omega)).trans ((pw_up_ne (by omega)).trans ((pw_up_ne (by omega)).trans (pw_up_self _ _ _)))))))))))))), ((pw_up_ne (by omega)).trans ((pw_up_ne (by omega)).trans ((pw_up_ne (by omega)).trans ((pw_up_ne (by omega)).trans ((pw_up_ne (by omega)).trans ((pw_up_ne (by omega)).trans ((pw_up_ne (by omega)).trans ((pw_up_ne (by omega)).trans ((pw_up_ne (by omega)).trans ((pw_up_ne (by omega)).trans ((pw_up_ne (by omega)).trans (pw_up_self _ _ _)))))))))))), ((pw_up_ne (by omega)).trans ((pw_up_ne (by omega)).trans ((pw_up_ne (by omega)).trans ((pw_up_ne (by omega)).trans ((pw_up_ne (by omega)).trans ((pw_up_ne (by omega)).trans ((pw_up_ne (by omega)).trans ((pw_up_ne (by omega)).trans ((pw_up_ne (by omega)).trans (pw_up_self _ _ _)))))))))), ((pw_up_ne (by omega)).trans ((pw_up_ne (by omega)).trans ((pw_up_ne (by omega)).trans ((pw_up_ne (by omega)).trans ((pw_up_ne (by omega)).trans ((pw_up_ne (by omega)).trans ((pw_up_ne (by omega)).trans (pw_up_self _ _ _)))))))), ((pw_up_ne (by omega)).trans ((pw_up_ne (by omega)).trans ((pw_up_ne (by omega)).trans ((pw_up_ne (by omega)).trans ((pw_up_ne (by omega)).trans (pw_up_self _ _ _)))))), ((pw_up_ne (by omega)).trans ((pw_up_ne (by omega)).trans ((pw_up_ne (by omega)).trans (pw_up_self _ _ _)))), ((pw_up_ne (by omega)).trans (pw_up_self _ _ _))⟩ (fun j hj => absurd hj (Nat.not_lt_zero j)) (fun q hq => ?_)
  simp only [pw_up]
  repeat (first | rw [if_neg (by omega)])
