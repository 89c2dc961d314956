/-! THE REFERENCE: put -/
/-- registers outside lo .. hi - 1 stay -/
def rgF (lo hi : Nat) (L Z S L' Z' S' : Nat → Int32) : Prop := (∀ r, (r < lo ∨ hi ≤ r) → Z' r = Z r ∧ S' r = S r) ∧ ∀ i, (i < 1024 * lo ∨ 1024 * hi ≤ i) → L' i = L i
theorem rgF.keep {lo hi : Nat} {L Z S L' Z' S' : Nat → Int32} (h : rgF lo hi L Z S L' Z' S') {r : Nat} {x : Int} (hr : r < lo ∨ hi ≤ r) (hx : lh x.natAbs ≤ 1024) (hv : rgV L Z S r x) : rgV L' Z' S' r x :=
  ⟨(h.1 r hr).1.trans hv.1, (h.1 r hr).2.trans hv.2.1, fun j hj => (h.2 _ (by omega)).trans (hv.2.2 j hj)⟩
theorem rgF.trans {lo hi : Nat} {L Z S L1 Z1 S1 L2 Z2 S2 : Nat → Int32} (h : rgF lo hi L Z S L1 Z1 S1) (k : rgF lo hi L1 Z1 S1 L2 Z2 S2) : rgF lo hi L Z S L2 Z2 S2 :=
  ⟨fun r hr => ⟨(k.1 r hr).1.trans (h.1 r hr).1, (k.1 r hr).2.trans (h.1 r hr).2⟩, fun i hi => (k.2 i hi).trans (h.2 i hi)⟩
theorem rgF.wide {lo hi lo' hi' : Nat} {L Z S L1 Z1 S1 : Nat → Int32} (h : rgF lo hi L Z S L1 Z1 S1) (h1 : lo' ≤ lo) (h2 : hi ≤ hi') : rgF lo' hi' L Z S L1 Z1 S1 :=
  ⟨fun r hr => h.1 r (by omega), fun i hi => h.2 i (by omega)⟩
theorem rgF.rfl {lo hi : Nat} {L Z S : Nat → Int32} : rgF lo hi L Z S L Z S := ⟨fun _ _ => ⟨Eq.refl _, Eq.refl _⟩, fun _ _ => Eq.refl _⟩
theorem set_V {L Z S L' : Nat → Int32} {r : Nat} {x : Int} (h : ∀ j, j < lh x.natAbs → L' (1024 * r + j) = nI (dgh x.natAbs j)) : rgV L' (upd Z r (nI (lh x.natAbs))) (upd S r (sgI x)) r x := ⟨upd_self _ _ _, upd_self _ _ _, h⟩
theorem set_F {L Z S L' : Nat → Int32} {r : Nat} {z s : Int32} (h : ∀ i, (i < 1024 * r ∨ 1024 * r + 4 ≤ i) → L' i = L i) : rgF r (r + 1) L Z S L' (upd Z r z) (upd S r s) := ⟨fun q hq => ⟨upd_ne _ _ (by omega), upd_ne _ _ (by omega)⟩, fun i hi => h i (by omega)⟩
theorem lh_i32 (x : Int32) : lh x.toInt.natAbs ≤ 1024 := by
  have h1 := Int32.toInt_lt x
  have h2 := Int32.le_toInt x
  have h3 : lh x.toInt.natAbs ≤ 2 := lh_le.mpr (show x.toInt.natAbs < 4294967296 by omega)
  omega
theorem d_Mo_put_0 : decode b_Mo_put 0 = .ok (.aload_n 0, 1) := by decide +kernel
theorem d_Mo_put_1 : decode b_Mo_put 1 = .ok (.iload_n 1, 1) := by decide +kernel
theorem d_Mo_put_2 : decode b_Mo_put 2 = .ok (.i2l, 1) := by decide +kernel
theorem d_Mo_put_3 : decode b_Mo_put 3 = .ok (.lconst 0, 1) := by decide +kernel
theorem d_Mo_put_4 : decode b_Mo_put 4 = .ok (.lconst 1, 1) := by decide +kernel
theorem d_Mo_put_5 : decode b_Mo_put 5 = .ok (.invokestatic 140, 3) := by decide +kernel
theorem d_Mo_put_8 : decode b_Mo_put 8 = .ok (.ifCond .eq 15, 3) := by decide +kernel
theorem d_Mo_put_11 : decode b_Mo_put 11 = .ok (.iload_n 2, 1) := by decide +kernel
theorem d_Mo_put_12 : decode b_Mo_put 12 = .ok (.i2l, 1) := by decide +kernel
theorem d_Mo_put_13 : decode b_Mo_put 13 = .ok (.lconst 0, 1) := by decide +kernel
theorem d_Mo_put_14 : decode b_Mo_put 14 = .ok (.ldc2_w 144, 3) := by decide +kernel
theorem d_Mo_put_17 : decode b_Mo_put 17 = .ok (.invokestatic 140, 3) := by decide +kernel
theorem d_Mo_put_20 : decode b_Mo_put 20 = .ok (.ifCond .ne 7, 3) := by decide +kernel
theorem d_Mo_put_23 : decode b_Mo_put 23 = .ok (.iconst 1, 1) := by decide +kernel
theorem d_Mo_put_24 : decode b_Mo_put 24 = .ok (.goto 4, 3) := by decide +kernel
theorem d_Mo_put_27 : decode b_Mo_put 27 = .ok (.iconst 0, 1) := by decide +kernel
theorem d_Mo_put_28 : decode b_Mo_put 28 = .ok (.iconst 1, 1) := by decide +kernel
theorem d_Mo_put_29 : decode b_Mo_put 29 = .ok (.invokevirtual 146, 3) := by decide +kernel
theorem d_Mo_put_32 : decode b_Mo_put 32 = .ok (.ifCond .eq 4, 3) := by decide +kernel
theorem d_Mo_put_35 : decode b_Mo_put 35 = .ok (.return_, 1) := by decide +kernel
theorem d_Mo_put_36 : decode b_Mo_put 36 = .ok (.aload_n 0, 1) := by decide +kernel
theorem d_Mo_put_37 : decode b_Mo_put 37 = .ok (.getfield 20, 3) := by decide +kernel
theorem d_Mo_put_40 : decode b_Mo_put 40 = .ok (.iload_n 1, 1) := by decide +kernel
theorem d_Mo_put_41 : decode b_Mo_put 41 = .ok (.iaload, 1) := by decide +kernel
theorem d_Mo_put_42 : decode b_Mo_put 42 = .ok (.iconst 1, 1) := by decide +kernel
theorem d_Mo_put_43 : decode b_Mo_put 43 = .ok (.iadd, 1) := by decide +kernel
theorem d_Mo_put_44 : decode b_Mo_put 44 = .ok (.istore 4, 2) := by decide +kernel
theorem d_Mo_put_46 : decode b_Mo_put 46 = .ok (.iload 4, 2) := by decide +kernel
theorem d_Mo_put_48 : decode b_Mo_put 48 = .ok (.bipush 8, 2) := by decide +kernel
theorem d_Mo_put_50 : decode b_Mo_put 50 = .ok (.if_icmp .gt 21, 3) := by decide +kernel
theorem d_Mo_put_53 : decode b_Mo_put 53 = .ok (.aload_n 0, 1) := by decide +kernel
theorem d_Mo_put_54 : decode b_Mo_put 54 = .ok (.bipush 9, 2) := by decide +kernel
theorem d_Mo_put_56 : decode b_Mo_put 56 = .ok (.iload_n 1, 1) := by decide +kernel
theorem d_Mo_put_57 : decode b_Mo_put 57 = .ok (.imul, 1) := by decide +kernel
theorem d_Mo_put_58 : decode b_Mo_put 58 = .ok (.iload 4, 2) := by decide +kernel
theorem d_Mo_put_60 : decode b_Mo_put 60 = .ok (.iadd, 1) := by decide +kernel
theorem d_Mo_put_61 : decode b_Mo_put 61 = .ok (.lconst 0, 1) := by decide +kernel
theorem d_Mo_put_62 : decode b_Mo_put 62 = .ok (.invokevirtual 72, 3) := by decide +kernel
theorem d_Mo_put_65 : decode b_Mo_put 65 = .ok (.iinc 4 1, 3) := by decide +kernel
theorem d_Mo_put_68 : decode b_Mo_put 68 = .ok (.goto (-22), 3) := by decide +kernel
theorem d_Mo_put_71 : decode b_Mo_put 71 = .ok (.aload_n 0, 1) := by decide +kernel
theorem d_Mo_put_72 : decode b_Mo_put 72 = .ok (.bipush 9, 2) := by decide +kernel
theorem d_Mo_put_74 : decode b_Mo_put 74 = .ok (.iload_n 1, 1) := by decide +kernel
theorem d_Mo_put_75 : decode b_Mo_put 75 = .ok (.imul, 1) := by decide +kernel
theorem d_Mo_put_76 : decode b_Mo_put 76 = .ok (.iload_n 2, 1) := by decide +kernel
theorem d_Mo_put_77 : decode b_Mo_put 77 = .ok (.iadd, 1) := by decide +kernel
theorem d_Mo_put_78 : decode b_Mo_put 78 = .ok (.iload_n 3, 1) := by decide +kernel
theorem d_Mo_put_79 : decode b_Mo_put 79 = .ok (.i2l, 1) := by decide +kernel
theorem d_Mo_put_80 : decode b_Mo_put 80 = .ok (.invokevirtual 72, 3) := by decide +kernel
theorem d_Mo_put_83 : decode b_Mo_put 83 = .ok (.aload_n 0, 1) := by decide +kernel
theorem d_Mo_put_84 : decode b_Mo_put 84 = .ok (.iload_n 1, 1) := by decide +kernel
theorem d_Mo_put_85 : decode b_Mo_put 85 = .ok (.bipush 8, 2) := by decide +kernel
theorem d_Mo_put_87 : decode b_Mo_put 87 = .ok (.invokevirtual 86, 3) := by decide +kernel
theorem d_Mo_put_90 : decode b_Mo_put 90 = .ok (.return_, 1) := by decide +kernel
theorem k_le {x : Int32} : x < 9 ↔ x ≤ 8 := by rw [Int32.lt_iff_toInt_lt, Int32.le_iff_toInt_le, show (9 : Int32).toInt = 9 from rfl, show (8 : Int32).toInt = 8 from rfl]; omega
set_option maxHeartbeats 4000000 in
set_option maxRecDepth 100000 in
theorem c_Mo_put_1 (l : Launch) (K : pw_K) (f : pw_F) (a sz : Nat) (th wr : Int32) (L Z S G P Ex O T V : Nat → Int32) (hm : mo K f a th wr L Z S G P Ex O T V) (p0 p1 p2 : Int32) (hc : (p0 < 0 ∨ ¬ p0 < 2) ∨ (¬ p0 < 0 ∧ p0 < 2) ∧ (p1 < 0 ∨ ¬ p1 < 9)) : pw_C l K y_Mo_put b_Mo_put 5 none (rmk 4 0 0) f [.ref a, .int p0, .int p1, .int p2] sz (moQ K f a 1 wr L Z S G P Ex O T V sz none) := by
  refine pw_start (by decide) (Nat.le_of_ble_eq_true rfl) ?_
  intro p e s m args below meth c ls X hr hin hz hS hl
  have hl : lv_has ls 5 [(0, .ref a), (1, .int p0), (2, .int p1), (3, .int p2)] := hl
  have hx := X.1
  have hb := X.2.1
  generalize s.heap = H0 at hz hS ⊢
  generalize ([] : List Loc) = lc0 at hS ⊢
  refine lv_aload_n hx hb d_Mo_put_0 rfl (lv_at hl 0 rfl) ?_
  refine lv_iload_n hx hb d_Mo_put_1 rfl (lv_at hl 1 rfl) ?_
  refine lv_i2l hx hb d_Mo_put_2 rfl ?_
  refine lv_lconst (v := 0) hx hb d_Mo_put_3 (by decide) ?_
  refine lv_lconst (v := 1) hx hb d_Mo_put_4 (by decide) ?_
  rcases hc with hc | hc
  · refine pw_callSR X hS (As := [.long (p0).toInt64, .long 0, .long 1]) (rest := [.ref a]) (r_Mo_in0 l K f sz p0.toInt64 0 1 (iBad (h2 := 1) (by decide) (hc.elim Or.inl (fun q => Or.inr (fun z => q (p_le.mpr z)))))) hz w_cd_Mo_in w_ini_Mo w_ml_Mo_140 w_st_Mo_in hd_Mo_in rfl hl.1 (Nat.le_of_ble_eq_true rfl) d_Mo_put_5 ⟨Nat.le_of_ble_eq_true rfl, Nat.le_of_ble_eq_true rfl⟩ ⟨show 0 ≤ 0 by omega, show 0 ≤ 0 by omega⟩ ?_
    refine lv_if_eq (tgt := 23) hx hb d_Mo_put_8 (by decide) (fun _ => ?_) (fun cw => absurd cw (by decide))
    refine lv_iconst (v := 1) hx hb d_Mo_put_23 (by decide) ?_
    refine lv_goto (tgt := 28) hx hb d_Mo_put_24 (by decide) ?_
    refine lv_iconst (v := 1) hx hb d_Mo_put_28 (by decide) ?_
    refine pw_callV X hS (As := [.int 1, .int 1]) (rest := []) (c_Mo_fails l K f a sz th wr L Z S G P Ex O T V hm 1 1 1 (by decide)) hz w_cd_Mo_fails w_ini_Mo w_ml_Mo_146 w_im_Mo_fails w_se_Mo_fails (hm.1) rfl hd_Mo_fails rfl hl.1 (Nat.le_of_ble_eq_true rfl) d_Mo_put_29 ⟨Nat.le_of_ble_eq_true rfl, Nat.le_of_ble_eq_true rfl⟩ ⟨show 0 + 0 ≤ 0 by omega, show 0 + 0 ≤ 0 by omega⟩ (fun v f1 H1 lc1 hp hS1 => ?_)
    refine W.cs (cells' := 0) (slots' := 0) rfl rfl ?_
    clear hS hz
    obtain ⟨rfl, hz1, hm1, hq1⟩ := hp
    refine lv_if_eq (tgt := 36) hx hb d_Mo_put_32 (by decide) (fun cw => absurd cw (by decide)) (fun _ => ?_)
    exact pw_vret X hS1 hr ⟨rfl, hz1, hm1, hq1⟩ (show 0 ≤ 0 by omega) (show 0 ≤ 0 by omega) d_Mo_put_35
  · refine pw_callSR X hS (As := [.long (p0).toInt64, .long 0, .long 1]) (rest := [.ref a]) (r_Mo_in1 l K f sz p0.toInt64 0 1 (iOk (h2 := 1) (by decide) hc.1.1 (p_le.mp hc.1.2))) hz w_cd_Mo_in w_ini_Mo w_ml_Mo_140 w_st_Mo_in hd_Mo_in rfl hl.1 (Nat.le_of_ble_eq_true rfl) d_Mo_put_5 ⟨Nat.le_of_ble_eq_true rfl, Nat.le_of_ble_eq_true rfl⟩ ⟨show 0 ≤ 0 by omega, show 0 ≤ 0 by omega⟩ ?_
    refine lv_if_eq (tgt := 23) hx hb d_Mo_put_8 (by decide) (fun cw => absurd cw (by decide)) (fun _ => ?_)
    refine lv_iload_n hx hb d_Mo_put_11 rfl (lv_at hl 2 rfl) ?_
    refine lv_i2l hx hb d_Mo_put_12 rfl ?_
    refine lv_lconst (v := 0) hx hb d_Mo_put_13 (by decide) ?_
    refine pw_ldc2 X w_kl_Mo_144 d_Mo_put_14 ?_
    refine pw_callSR X hS (As := [.long (p1).toInt64, .long 0, .long 8]) (rest := [.ref a]) (r_Mo_in0 l K f sz p1.toInt64 0 8 (iBad (h2 := 8) (by decide) (hc.2.elim Or.inl (fun q => Or.inr (fun z => q (k_le.mpr z)))))) hz w_cd_Mo_in w_ini_Mo w_ml_Mo_140 w_st_Mo_in hd_Mo_in rfl hl.1 (Nat.le_of_ble_eq_true rfl) d_Mo_put_17 ⟨Nat.le_of_ble_eq_true rfl, Nat.le_of_ble_eq_true rfl⟩ ⟨show 0 ≤ 0 by omega, show 0 ≤ 0 by omega⟩ ?_
    refine lv_if_ne (tgt := 27) hx hb d_Mo_put_20 (by decide) (fun cw => absurd cw (by decide)) (fun _ => ?_)
    refine lv_iconst (v := 1) hx hb d_Mo_put_23 (by decide) ?_
    refine lv_goto (tgt := 28) hx hb d_Mo_put_24 (by decide) ?_
    refine lv_iconst (v := 1) hx hb d_Mo_put_28 (by decide) ?_
    refine pw_callV X hS (As := [.int 1, .int 1]) (rest := []) (c_Mo_fails l K f a sz th wr L Z S G P Ex O T V hm 1 1 1 (by decide)) hz w_cd_Mo_fails w_ini_Mo w_ml_Mo_146 w_im_Mo_fails w_se_Mo_fails (hm.1) rfl hd_Mo_fails rfl hl.1 (Nat.le_of_ble_eq_true rfl) d_Mo_put_29 ⟨Nat.le_of_ble_eq_true rfl, Nat.le_of_ble_eq_true rfl⟩ ⟨show 0 + 0 ≤ 0 by omega, show 0 + 0 ≤ 0 by omega⟩ (fun v f1 H1 lc1 hp hS1 => ?_)
    refine W.cs (cells' := 0) (slots' := 0) rfl rfl ?_
    clear hS hz
    obtain ⟨rfl, hz1, hm1, hq1⟩ := hp
    refine lv_if_eq (tgt := 36) hx hb d_Mo_put_32 (by decide) (fun cw => absurd cw (by decide)) (fun _ => ?_)
    exact pw_vret X hS1 hr ⟨rfl, hz1, hm1, hq1⟩ (show 0 ≤ 0 by omega) (show 0 ≤ 0 by omega) d_Mo_put_35
set_option maxHeartbeats 4000000 in
set_option maxRecDepth 100000 in
theorem c_Mo_put_0 (l : Launch) (K : pw_K) (f : pw_F) (a sz j k : Nat) (hj : j < 2) (hk : k < 9) (th wr : Int32) (L Z S G P Ex O T V : Nat → Int32) (hm : mo K f a th wr L Z S G P Ex O T V) (gv : Nat → Int32) (v : Int32) (hG : G j = dI (top (fun i => (gv i).toInt) 9)) (hV : ∀ i, i < 9 → rgV L Z S (9 * j + i) (gv i).toInt) : pw_C l K y_Mo_put b_Mo_put 5 none (rmk 4 0 0) f [.ref a, .int (nI j), .int (nI k), .int v] sz (fun x f2 z => x = none ∧ z = sz ∧ ∃ L' Z' S' : Nat → Int32, mo K f2 a 0 wr L' Z' S' (upd G j (dI (top (fun i => (upd gv k v i).toInt) 9))) P Ex O T V ∧ (∀ i, i < 9 → rgV L' Z' S' (9 * j + i) (upd gv k v i).toInt) ∧ rgF (9 * j) (9 * j + 9) L Z S L' Z' S' ∧ ∀ q, (q < a ∨ a + 10 ≤ q) → f2 q = f q) := by
  refine pw_start (by decide) (Nat.le_of_ble_eq_true rfl) ?_
  intro p e s m args below meth c ls X hr hin hz hS hl
  have hl : lv_has ls 5 [(0, .ref a), (1, .int (nI j)), (2, .int (nI k)), (3, .int v)] := hl
  have hx := X.1
  have hb := X.2.1
  generalize s.heap = H0 at hz hS ⊢
  generalize ([] : List Loc) = lc0 at hS ⊢
  have htl := top_le (fun i => (gv i).toInt) 9
  have loop : ∀ (d i : Nat), i + d = 9 → top (fun i => (gv i).toInt) 9 ≤ i → ∀ (F : pw_F) (L1 Z1 S1 : Nat → Int32) (H0 : Heap) (lc0 : List Loc) (ls : Array Slot), lv_has ls 5 [(0, .ref a), (1, .int (nI j)), (2, .int (nI k)), (3, .int v), (4, .int (nI i))] → Array.size H0 = sz → pw_S K F H0 lc0 → mo K F a 0 wr L1 Z1 S1 G P Ex O T V → (∀ i, i < 9 → rgV L1 Z1 S1 (9 * j + i) (gv i).toInt) → rgF (9 * j) (9 * j + 9) L Z S L1 Z1 S1 → (∀ q, (q < a ∨ a + 10 ≤ q) → F q = f q) → W p l e (rmk 4 0 0) s m args below meth c H0 lc0 0 0 (MQ below (pw_Q K (fun x f2 z => x = none ∧ z = sz ∧ ∃ L' Z' S' : Nat → Int32, mo K f2 a 0 wr L' Z' S' (upd G j (dI (top (fun i => (upd gv k v i).toInt) 9))) P Ex O T V ∧ (∀ i, i < 9 → rgV L' Z' S' (9 * j + i) (upd gv k v i).toInt) ∧ rgF (9 * j) (9 * j + 9) L Z S L' Z' S' ∧ ∀ q, (q < a ∨ a + 10 ≤ q) → f2 q = f q)) args s 0 0 (fun q => (pZ K).heap.size ≤ q)) (F0 m 46 ls []) := by
    intro d
    induction d with
    | zero =>
      intro i hi hti F L1 Z1 S1 H0 lc0 ls hl hz hS hm hV hR hF
      obtain rfl : i = 9 := by omega
      refine lv_iload hx hb d_Mo_put_46 (lv_at hl 4 rfl) ?_
      refine lv_bipush (v := 8) hx hb d_Mo_put_48 (by decide) ?_
      refine lv_icmp_gt (tgt := 71) hx hb d_Mo_put_50 (by decide) (fun _ => ?_) (fun cw => absurd cw (not_not_intro (by decide)))
      refine lv_aload_n hx hb d_Mo_put_71 rfl (lv_at hl 0 rfl) ?_
      refine lv_bipush (v := 9) hx hb d_Mo_put_72 (by decide) ?_
      refine lv_iload_n hx hb d_Mo_put_74 rfl (lv_at hl 1 rfl) ?_
      refine lv_imul hx hb d_Mo_put_75 ?_
      refine lv_iload_n hx hb d_Mo_put_76 rfl (lv_at hl 2 rfl) ?_
      refine lv_iadd hx hb d_Mo_put_77 ?_
      refine lv_topi (fun yy ey => ?_)
      obtain rfl : yy = nI (9 * j + k) := by rw [ey]; rw [show (9 : Int32) = nI 9 from rfl, nI_mul, nI_add]
      clear ey
      refine lv_iload_n hx hb d_Mo_put_78 rfl (lv_at hl 3 rfl) ?_
      refine lv_i2l hx hb d_Mo_put_79 rfl ?_
      refine pw_callV X hS (As := [.int (nI (9 * j + k)), .long (v).toInt64]) (rest := []) (c_Mo_set l K F a sz (9 * j + k) (by omega) v.toInt64 0 wr L1 Z1 S1 G P Ex O T V hm) hz w_cd_Mo_set w_ini_Mo w_ml_Mo_72 w_im_Mo_set w_se_Mo_set (hm.1) rfl hd_Mo_set rfl hl.1 (Nat.le_of_ble_eq_true rfl) d_Mo_put_80 ⟨Nat.le_of_ble_eq_true rfl, Nat.le_of_ble_eq_true rfl⟩ ⟨show 0 + 0 ≤ 0 by omega, show 0 + 0 ≤ 0 by omega⟩ (fun v f1 H1 lc1 hp hS1 => ?_)
      refine W.cs (cells' := 0) (slots' := 0) rfl rfl ?_
      clear hS hz
      obtain ⟨rfl, hz1, L2, hm2, hD2, hO2, hQ2⟩ := hp
      rw [Int32.toInt_toInt64] at hm2 hD2
      have hV2 : ∀ i, i < 9 → rgV L2 (upd Z1 (9 * j + k) (nI (lh v.toInt.natAbs))) (upd S1 (9 * j + k) (sgI v.toInt)) (9 * j + i) (upd gv k v i).toInt := by
        intro i hi2
        rw [pw_upd_toInt]
        by_cases e : i = k
        · subst e; rw [if_pos rfl]; exact set_V (L := L1) hD2
        · rw [if_neg e]; exact (set_F hO2).keep (by omega) (lh_i32 _) (hV i hi2)
      refine lv_aload_n hx hb d_Mo_put_83 rfl (lv_at hl 0 rfl) ?_
      refine lv_iload_n hx hb d_Mo_put_84 rfl (lv_at hl 1 rfl) ?_
      refine lv_bipush (v := 8) hx hb d_Mo_put_85 (by decide) ?_
      refine lv_topi (fun yy ey => ?_)
      obtain rfl : yy = dI 9 := by rw [ey]; decide
      clear ey
      refine pw_callV X hS1 (As := [.int (nI j), .int (dI 9)]) (rest := []) (c_Mo_trimPoly l K f1 a sz j 9 (by omega) (Nat.le_refl _) (fun i => (upd gv k v i).toInt) 0 wr L2 _ _ G P Ex O T V hm2 (fun i hi2 => (hV2 i hi2).2.1)) hz1 w_cd_Mo_trimPoly w_ini_Mo w_ml_Mo_86 w_im_Mo_trimPoly w_se_Mo_trimPoly (hm2.1) rfl hd_Mo_trimPoly rfl hl.1 (Nat.le_of_ble_eq_true rfl) d_Mo_put_87 ⟨Nat.le_of_ble_eq_true rfl, Nat.le_of_ble_eq_true rfl⟩ ⟨show 0 + 0 ≤ 0 by omega, show 0 + 0 ≤ 0 by omega⟩ (fun v f2 H2 lc2 hp hS2 => ?_)
      refine W.cs (cells' := 0) (slots' := 0) rfl rfl ?_
      clear hS1 hz1
      obtain ⟨rfl, hz2, hm3, hQ3⟩ := hp
      exact pw_vret X hS2 hr ⟨rfl, hz2, _, _, _, hm3, hV2, hR.trans ((set_F hO2).wide (by omega) (by omega)), fun q hq => (hQ3 q (by omega)).trans ((hQ2 q hq).trans (hF q hq))⟩ (show 0 ≤ 0 by omega) (show 0 ≤ 0 by omega) d_Mo_put_90
    | succ d ih =>
      intro i hi hti F L1 Z1 S1 H0 lc0 ls hl hz hS hm hV hR hF
      refine lv_iload hx hb d_Mo_put_46 (lv_at hl 4 rfl) ?_
      refine lv_bipush (v := 8) hx hb d_Mo_put_48 (by decide) ?_
      refine lv_icmp_gt (tgt := 71) hx hb d_Mo_put_50 (by decide) (fun cw => absurd cw (fun cq => absurd cq (Int32.not_lt.mpr (nI_le (b := 8) (by omega) (by omega))))) (fun _ => ?_)
      refine lv_aload_n hx hb d_Mo_put_53 rfl (lv_at hl 0 rfl) ?_
      refine lv_bipush (v := 9) hx hb d_Mo_put_54 (by decide) ?_
      refine lv_iload_n hx hb d_Mo_put_56 rfl (lv_at hl 1 rfl) ?_
      refine lv_imul hx hb d_Mo_put_57 ?_
      refine lv_iload hx hb d_Mo_put_58 (lv_at hl 4 rfl) ?_
      refine lv_iadd hx hb d_Mo_put_60 ?_
      refine lv_topi (fun yy ey => ?_)
      obtain rfl : yy = nI (9 * j + i) := by rw [ey]; rw [show (9 : Int32) = nI 9 from rfl, nI_mul, nI_add]
      clear ey
      refine lv_lconst (v := 0) hx hb d_Mo_put_61 (by decide) ?_
      refine pw_callV X hS (As := [.int (nI (9 * j + i)), .long 0]) (rest := []) (c_Mo_set l K F a sz (9 * j + i) (by omega) 0 0 wr L1 Z1 S1 G P Ex O T V hm) hz w_cd_Mo_set w_ini_Mo w_ml_Mo_72 w_im_Mo_set w_se_Mo_set (hm.1) rfl hd_Mo_set rfl hl.1 (Nat.le_of_ble_eq_true rfl) d_Mo_put_62 ⟨Nat.le_of_ble_eq_true rfl, Nat.le_of_ble_eq_true rfl⟩ ⟨show 0 + 0 ≤ 0 by omega, show 0 + 0 ≤ 0 by omega⟩ (fun v f1 H1 lc1 hp hS1 => ?_)
      refine W.cs (cells' := 0) (slots' := 0) rfl rfl ?_
      clear hS hz
      obtain ⟨rfl, hz1, L2, hm2, hD2, hO2, hQ2⟩ := hp
      have hg0 : (gv i).toInt = 0 := top_z _ 9 i hti (by omega)
      have hV2 : ∀ i', i' < 9 → rgV L2 (upd Z1 (9 * j + i) (nI (lh (0 : Int64).toInt.natAbs))) (upd S1 (9 * j + i) (sgI (0 : Int64).toInt)) (9 * j + i') (gv i').toInt := by
        intro i' hi2
        by_cases e : i' = i
        · subst e; rw [hg0]; exact set_V (L := L1) hD2
        · exact (set_F hO2).keep (by omega) (lh_i32 _) (hV i' hi2)
      refine lv_iinc (v := nI (i + 1)) (lv' := [(4, .int (nI (i + 1))), (0, .ref a), (1, .int (nI j)), (2, .int (nI k)), (3, .int v)]) hx hb d_Mo_put_65 hl (k := 4) rfl (nI_succ i).symm (by decide) rfl (fun ls hl => ?_)
      refine lv_goto (tgt := 46) hx hb d_Mo_put_68 (by decide) ?_
      exact ih (i + 1) (by omega) (by omega) _ _ _ _ _ _ ls (lv_sub hl [1, 2, 3, 4, 0] rfl) hz1 hS1 hm2 hV2 (hR.trans ((set_F hO2).wide (by omega) (by omega))) (fun q hq => (hQ2 q hq).trans (hF q hq))
  refine lv_aload_n hx hb d_Mo_put_0 rfl (lv_at hl 0 rfl) ?_
  refine lv_iload_n hx hb d_Mo_put_1 rfl (lv_at hl 1 rfl) ?_
  refine lv_i2l hx hb d_Mo_put_2 rfl ?_
  refine lv_lconst (v := 0) hx hb d_Mo_put_3 (by decide) ?_
  refine lv_lconst (v := 1) hx hb d_Mo_put_4 (by decide) ?_
  refine pw_callSR X hS (As := [.long ((nI j)).toInt64, .long 0, .long 1]) (rest := [.ref a]) (r_Mo_in1 l K f sz ((nI j).toInt64) 0 1 (iOk (h2 := 1) (by decide) (nI_pos (by omega)) (nI_le (b := 1) (by omega) (by omega)))) hz w_cd_Mo_in w_ini_Mo w_ml_Mo_140 w_st_Mo_in hd_Mo_in rfl hl.1 (Nat.le_of_ble_eq_true rfl) d_Mo_put_5 ⟨Nat.le_of_ble_eq_true rfl, Nat.le_of_ble_eq_true rfl⟩ ⟨show 0 ≤ 0 by omega, show 0 ≤ 0 by omega⟩ ?_
  refine lv_if_eq (tgt := 23) hx hb d_Mo_put_8 (by decide) (fun cw => absurd cw (by decide)) (fun _ => ?_)
  refine lv_iload_n hx hb d_Mo_put_11 rfl (lv_at hl 2 rfl) ?_
  refine lv_i2l hx hb d_Mo_put_12 rfl ?_
  refine lv_lconst (v := 0) hx hb d_Mo_put_13 (by decide) ?_
  refine pw_ldc2 X w_kl_Mo_144 d_Mo_put_14 ?_
  refine pw_callSR X hS (As := [.long ((nI k)).toInt64, .long 0, .long 8]) (rest := [.ref a]) (r_Mo_in1 l K f sz ((nI k).toInt64) 0 8 (iOk (h2 := 8) (by decide) (nI_pos (by omega)) (nI_le (b := 8) (by omega) (by omega)))) hz w_cd_Mo_in w_ini_Mo w_ml_Mo_140 w_st_Mo_in hd_Mo_in rfl hl.1 (Nat.le_of_ble_eq_true rfl) d_Mo_put_17 ⟨Nat.le_of_ble_eq_true rfl, Nat.le_of_ble_eq_true rfl⟩ ⟨show 0 ≤ 0 by omega, show 0 ≤ 0 by omega⟩ ?_
  refine lv_if_ne (tgt := 27) hx hb d_Mo_put_20 (by decide) (fun _ => ?_) (fun cw => absurd cw (by decide))
  refine lv_iconst (v := 0) hx hb d_Mo_put_27 (by decide) ?_
  refine lv_iconst (v := 1) hx hb d_Mo_put_28 (by decide) ?_
  refine pw_callV X hS (As := [.int 0, .int 1]) (rest := []) (c_Mo_fails l K f a sz th wr L Z S G P Ex O T V hm 0 1 0 (by decide)) hz w_cd_Mo_fails w_ini_Mo w_ml_Mo_146 w_im_Mo_fails w_se_Mo_fails (hm.1) rfl hd_Mo_fails rfl hl.1 (Nat.le_of_ble_eq_true rfl) d_Mo_put_29 ⟨Nat.le_of_ble_eq_true rfl, Nat.le_of_ble_eq_true rfl⟩ ⟨show 0 + 0 ≤ 0 by omega, show 0 + 0 ≤ 0 by omega⟩ (fun v f1 H1 lc1 hp hS1 => ?_)
  refine W.cs (cells' := 0) (slots' := 0) rfl rfl ?_
  clear hS hz
  obtain ⟨rfl, hz1, hm1, hq1⟩ := hp
  refine lv_if_eq (tgt := 36) hx hb d_Mo_put_32 (by decide) (fun _ => ?_) (fun cw => absurd cw (by decide))
  refine lv_aload_n hx hb d_Mo_put_36 rfl (lv_at hl 0 rfl) ?_
  refine pw_get X hS1 (hm1.1) pc_Mo 4 (by decide) w_fl_Mo_20 rfl (v := .ref (a + 4)) rfl d_Mo_put_37 ?_
  refine lv_iload_n hx hb d_Mo_put_40 rfl (lv_at hl 1 rfl) ?_
  refine pw_ild X hS1 (hm1.2.2.2.2.1) (vp_in_nI (by omega) (by omega)) d_Mo_put_41 ?_
  refine lv_topi (fun yy ey => ?_)
  obtain rfl : yy = dI (top (fun i => (gv i).toInt) 9) := by rw [ey]; rw [nI_clamp (by omega)]; exact hG
  clear ey
  refine lv_iconst (v := 1) hx hb d_Mo_put_42 (by decide) ?_
  refine lv_iadd hx hb d_Mo_put_43 ?_
  refine lv_topi (fun yy ey => ?_)
  obtain rfl : yy = nI (top (fun i => (gv i).toInt) 9) := by rw [ey]; exact Int32.sub_add_cancel _ _
  clear ey
  refine lv_istore (lv' := [(4, .int (nI (top (fun i => (gv i).toInt) 9))), (0, .ref a), (1, .int (nI j)), (2, .int (nI k)), (3, .int v)]) hx hb d_Mo_put_44 hl (by decide) rfl (fun ls hl => ?_)
  exact loop _ _ (Nat.add_sub_cancel' htl) (Nat.le_refl _) _ L Z S _ _ ls (lv_sub hl [1, 2, 3, 4, 0] rfl) hz1 hS1 hm1 hV rgF.rfl (fun q hq => hq1 q (by omega))
