/-! THE REFERENCE: set, trimPoly, put -/
abbrev B16 : Nat := 65536
def dgh (m j : Nat) : Nat := m / B16 ^ j % B16
def lh (m : Nat) : Nat := if m = 0 then 0 else m.log2 / 16 + 1
theorem B16_pow (k : Nat) : B16 ^ k = 2 ^ (16 * k) := by rw [Nat.pow_mul]
theorem lh_le {m k : Nat} : lh m ≤ k ↔ m < B16 ^ k := by
  unfold lh
  rw [B16_pow]
  by_cases h : m = 0
  · subst h
    simp [Nat.two_pow_pos]
  · rw [if_neg h, ← Nat.log2_lt h]
    omega
/-- register r holds x -/
def rgV (L Z S : Nat → Int32) (r : Nat) (x : Int) : Prop := Z r = nI (lh x.natAbs) ∧ S r = sgI x ∧ ∀ j, j < lh x.natAbs → L (1024 * r + j) = nI (dgh x.natAbs j)
def inL (y : Int) : Prop := -9223372036854775808 ≤ y ∧ y < 9223372036854775808
theorem lo_toInt {y : Int} (h : inL y) : (Int64.ofInt y).toInt = y := Int64.toInt_ofInt_of_le (by exact h.1) (by exact h.2)
theorem lo_lt {y : Int} (h : inL y) : Int64.ofInt y < 0 ↔ y < 0 := by rw [Int64.lt_iff_toInt_lt, lo_toInt h]; rfl
theorem lo_gt {y : Int} (h : inL y) : (0 : Int64) < Int64.ofInt y ↔ 0 < y := by rw [Int64.lt_iff_toInt_lt, lo_toInt h]; rfl
theorem lo_z {y : Int} (h : inL y) : Int64.ofInt y = 0 ↔ y = 0 := by
  constructor
  · intro e
    have := congrArg Int64.toInt e
    rw [lo_toInt h] at this
    exact this
  · intro e; subst e; rfl
theorem tdiv_abs (y : Int) : (y.tdiv 65536).natAbs = y.natAbs / 65536 := by rw [Int.natAbs_tdiv]; rfl
theorem tdiv_in {y : Int} (h : inL y) : inL (y.tdiv 65536) := by
  have h1 := tdiv_abs y
  unfold inL at h ⊢
  omega
theorem lo_div {y : Int} (h : inL y) : Int64.ofInt y / 65536 = Int64.ofInt (y.tdiv 65536) := by
  apply Int64.toInt_inj.mp
  rw [Int64.toInt_div, lo_toInt h, lo_toInt (tdiv_in h)]
  have h2 := tdiv_in h
  exact Int.bmod_eq_of_le (by have := h2.1; show -(((2 ^ 64 : Nat) : Int) / 2) ≤ y.tdiv 65536; omega) (by have := h2.2; show y.tdiv 65536 < (((2 ^ 64 : Nat) : Int) + 1) / 2; omega)
theorem lo_rem {y : Int} (h : inL y) : Int64.ofInt y - Int64.ofInt y / 65536 * 65536 = Int64.ofInt (y.tmod 65536) := by
  rw [lo_div h, show (65536 : Int64) = Int64.ofInt 65536 from rfl, ← Int64.ofInt_mul, ← Int64.ofInt_sub]
  congr 1
  have := Int.mul_tdiv_add_tmod y 65536
  omega
theorem tmod_abs (y : Int) : (y.tmod 65536).natAbs = y.natAbs % 65536 := Int.natAbs_tmod y 65536
theorem tmod_in (y : Int) : inL (y.tmod 65536) := by
  have h1 := tmod_abs y
  unfold inL
  omega
theorem lo_l2i {m : Nat} (h : m < 2 ^ 31) : (Int64.ofInt (m : Int)).toInt32 = nI m := by
  show (lN m).toInt32 = nI m
  rw [← nI_l h]
  exact Int32.toInt32_toInt64 _
theorem lo_abs1 {y : Int} (h : y.tmod 65536 < 0) : (-Int64.ofInt (y.tmod 65536)).toInt32 = nI (y.natAbs % 65536) := by
  have h1 := tmod_abs y
  rw [← Int64.ofInt_neg, show -y.tmod 65536 = ((y.natAbs % 65536 : Nat) : Int) by omega]
  exact lo_l2i (by omega)
theorem lo_abs2 {y : Int} (h : ¬ y.tmod 65536 < 0) : (Int64.ofInt (y.tmod 65536)).toInt32 = nI (y.natAbs % 65536) := by
  have h1 := tmod_abs y
  rw [show y.tmod 65536 = ((y.natAbs % 65536 : Nat) : Int) by omega]
  exact lo_l2i (by omega)
theorem inL_of (v : Int64) : inL v.toInt := ⟨Int64.le_toInt v, Int64.toInt_lt v⟩
theorem nI_mul (a b : Nat) : nI a * nI b = nI (a * b) := (Int32.ofNat_mul a b).symm
theorem upd_upd (g : Nat → Int32) (k : Nat) (x y : Int32) : upd (upd g k x) k y = upd g k y := by
  funext j
  by_cases e : j = k
  · subst e; rw [upd_self, upd_self]
  · rw [upd_ne _ _ e, upd_ne _ _ e, upd_ne _ _ e]
theorem d_Mo_set_0 : decode b_Mo_set 0 = .ok (.lload_n 2, 1) := by decide +kernel
theorem d_Mo_set_1 : decode b_Mo_set 1 = .ok (.lstore 4, 2) := by decide +kernel
theorem d_Mo_set_3 : decode b_Mo_set 3 = .ok (.iconst 0, 1) := by decide +kernel
theorem d_Mo_set_4 : decode b_Mo_set 4 = .ok (.istore 6, 2) := by decide +kernel
theorem d_Mo_set_6 : decode b_Mo_set 6 = .ok (.aload_n 0, 1) := by decide +kernel
theorem d_Mo_set_7 : decode b_Mo_set 7 = .ok (.getfield 17, 3) := by decide +kernel
theorem d_Mo_set_10 : decode b_Mo_set 10 = .ok (.iload_n 1, 1) := by decide +kernel
theorem d_Mo_set_11 : decode b_Mo_set 11 = .ok (.lload_n 2, 1) := by decide +kernel
theorem d_Mo_set_12 : decode b_Mo_set 12 = .ok (.lconst 0, 1) := by decide +kernel
theorem d_Mo_set_13 : decode b_Mo_set 13 = .ok (.lcmp, 1) := by decide +kernel
theorem d_Mo_set_14 : decode b_Mo_set 14 = .ok (.ifCond .ge 7, 3) := by decide +kernel
theorem d_Mo_set_17 : decode b_Mo_set 17 = .ok (.iconst (-1), 1) := by decide +kernel
theorem d_Mo_set_18 : decode b_Mo_set 18 = .ok (.goto 14, 3) := by decide +kernel
theorem d_Mo_set_21 : decode b_Mo_set 21 = .ok (.lload_n 2, 1) := by decide +kernel
theorem d_Mo_set_22 : decode b_Mo_set 22 = .ok (.lconst 0, 1) := by decide +kernel
theorem d_Mo_set_23 : decode b_Mo_set 23 = .ok (.lcmp, 1) := by decide +kernel
theorem d_Mo_set_24 : decode b_Mo_set 24 = .ok (.ifCond .le 7, 3) := by decide +kernel
theorem d_Mo_set_27 : decode b_Mo_set 27 = .ok (.iconst 1, 1) := by decide +kernel
theorem d_Mo_set_28 : decode b_Mo_set 28 = .ok (.goto 4, 3) := by decide +kernel
theorem d_Mo_set_31 : decode b_Mo_set 31 = .ok (.iconst 0, 1) := by decide +kernel
theorem d_Mo_set_32 : decode b_Mo_set 32 = .ok (.iastore, 1) := by decide +kernel
theorem d_Mo_set_33 : decode b_Mo_set 33 = .ok (.lload 4, 2) := by decide +kernel
theorem d_Mo_set_35 : decode b_Mo_set 35 = .ok (.lconst 0, 1) := by decide +kernel
theorem d_Mo_set_36 : decode b_Mo_set 36 = .ok (.lcmp, 1) := by decide +kernel
theorem d_Mo_set_37 : decode b_Mo_set 37 = .ok (.ifCond .eq 54, 3) := by decide +kernel
theorem d_Mo_set_40 : decode b_Mo_set 40 = .ok (.lload 4, 2) := by decide +kernel
theorem d_Mo_set_42 : decode b_Mo_set 42 = .ok (.ldc2_w 43, 3) := by decide +kernel
theorem d_Mo_set_45 : decode b_Mo_set 45 = .ok (.lrem, 1) := by decide +kernel
theorem d_Mo_set_46 : decode b_Mo_set 46 = .ok (.lstore 7, 2) := by decide +kernel
theorem d_Mo_set_48 : decode b_Mo_set 48 = .ok (.aload_n 0, 1) := by decide +kernel
theorem d_Mo_set_49 : decode b_Mo_set 49 = .ok (.getfield 8, 3) := by decide +kernel
theorem d_Mo_set_52 : decode b_Mo_set 52 = .ok (.sipush 1024, 3) := by decide +kernel
theorem d_Mo_set_55 : decode b_Mo_set 55 = .ok (.iload_n 1, 1) := by decide +kernel
theorem d_Mo_set_56 : decode b_Mo_set 56 = .ok (.imul, 1) := by decide +kernel
theorem d_Mo_set_57 : decode b_Mo_set 57 = .ok (.iload 6, 2) := by decide +kernel
theorem d_Mo_set_59 : decode b_Mo_set 59 = .ok (.iadd, 1) := by decide +kernel
theorem d_Mo_set_60 : decode b_Mo_set 60 = .ok (.lload 7, 2) := by decide +kernel
theorem d_Mo_set_62 : decode b_Mo_set 62 = .ok (.lconst 0, 1) := by decide +kernel
theorem d_Mo_set_63 : decode b_Mo_set 63 = .ok (.lcmp, 1) := by decide +kernel
theorem d_Mo_set_64 : decode b_Mo_set 64 = .ok (.ifCond .ge 9, 3) := by decide +kernel
theorem d_Mo_set_67 : decode b_Mo_set 67 = .ok (.lload 7, 2) := by decide +kernel
theorem d_Mo_set_69 : decode b_Mo_set 69 = .ok (.lneg, 1) := by decide +kernel
theorem d_Mo_set_70 : decode b_Mo_set 70 = .ok (.goto 5, 3) := by decide +kernel
theorem d_Mo_set_73 : decode b_Mo_set 73 = .ok (.lload 7, 2) := by decide +kernel
theorem d_Mo_set_75 : decode b_Mo_set 75 = .ok (.l2i, 1) := by decide +kernel
theorem d_Mo_set_76 : decode b_Mo_set 76 = .ok (.iastore, 1) := by decide +kernel
theorem d_Mo_set_77 : decode b_Mo_set 77 = .ok (.lload 4, 2) := by decide +kernel
theorem d_Mo_set_79 : decode b_Mo_set 79 = .ok (.ldc2_w 43, 3) := by decide +kernel
theorem d_Mo_set_82 : decode b_Mo_set 82 = .ok (.ldiv, 1) := by decide +kernel
theorem d_Mo_set_83 : decode b_Mo_set 83 = .ok (.lstore 4, 2) := by decide +kernel
theorem d_Mo_set_85 : decode b_Mo_set 85 = .ok (.iinc 6 1, 3) := by decide +kernel
theorem d_Mo_set_88 : decode b_Mo_set 88 = .ok (.goto (-55), 3) := by decide +kernel
theorem d_Mo_set_91 : decode b_Mo_set 91 = .ok (.aload_n 0, 1) := by decide +kernel
theorem d_Mo_set_92 : decode b_Mo_set 92 = .ok (.getfield 14, 3) := by decide +kernel
theorem d_Mo_set_95 : decode b_Mo_set 95 = .ok (.iload_n 1, 1) := by decide +kernel
theorem d_Mo_set_96 : decode b_Mo_set 96 = .ok (.iload 6, 2) := by decide +kernel
theorem d_Mo_set_98 : decode b_Mo_set 98 = .ok (.iastore, 1) := by decide +kernel
theorem d_Mo_set_99 : decode b_Mo_set 99 = .ok (.return_, 1) := by decide +kernel
set_option maxHeartbeats 4000000 in
set_option maxRecDepth 100000 in
theorem c_Mo_set (l : Launch) (K : pw_K) (f : pw_F) (a sz r : Nat) (hr0 : r < 160) (v : Int64) (th wr : Int32) (L Z S G P Ex O T V : Nat → Int32) (hm : mo K f a th wr L Z S G P Ex O T V) : pw_C l K y_Mo_set b_Mo_set 9 none (rmk 2 0 0) f [.ref a, .int (nI r), .long v] sz (fun x f2 z => x = none ∧ z = sz ∧ ∃ L' : Nat → Int32, mo K f2 a th wr L' (upd Z r (nI (lh v.toInt.natAbs))) (upd S r (sgI v.toInt)) G P Ex O T V ∧ (∀ j, j < lh v.toInt.natAbs → L' (1024 * r + j) = nI (dgh v.toInt.natAbs j)) ∧ (∀ i, (i < 1024 * r ∨ 1024 * r + 4 ≤ i) → L' i = L i) ∧ ∀ q, (q < a ∨ a + 10 ≤ q) → f2 q = f q) := by
  refine pw_start (by decide) (Nat.le_of_ble_eq_true rfl) ?_
  intro p e s m args below meth c ls X hr hin hz hS hl
  have hl : lv_has ls 9 [(0, .ref a), (1, .int (nI r)), (2, .long v)] := hl
  have hx := X.1
  have hb := X.2.1
  generalize s.heap = H0 at hz hS ⊢
  generalize ([] : List Loc) = lc0 at hS ⊢
  have hi := inL_of v
  have hv : v = Int64.ofInt v.toInt := (Int64.ofInt_toInt v).symm
  have hM : v.toInt.natAbs < B16 ^ 4 := by have := hi.1; have := hi.2; show v.toInt.natAbs < 18446744073709551616; omega
  have loop : ∀ (d k : Nat), k + d = lh v.toInt.natAbs → ∀ (Y : Int), inL Y → Y.natAbs = v.toInt.natAbs / B16 ^ k → ∀ (F : pw_F) (LL : Nat → Int32) (H0 : Heap) (lc0 : List Loc) (ls : Array Slot), lv_has ls 9 [(0, .ref a), (1, .int (nI r)), (2, .long v), (4, .long (Int64.ofInt Y)), (6, .int (nI k))] → Array.size H0 = sz → pw_S K F H0 lc0 → mo K F a th wr LL Z (upd S r (sgI v.toInt)) G P Ex O T V → (∀ j, j < k → LL (1024 * r + j) = nI (dgh v.toInt.natAbs j)) → (∀ i, (i < 1024 * r ∨ 1024 * r + 4 ≤ i) → LL i = L i) → (∀ q, (q < a ∨ a + 10 ≤ q) → F q = f q) → W p l e (rmk 2 0 0) s m args below meth c H0 lc0 0 0 (MQ below (pw_Q K (fun x f2 z => x = none ∧ z = sz ∧ ∃ L' : Nat → Int32, mo K f2 a th wr L' (upd Z r (nI (lh v.toInt.natAbs))) (upd S r (sgI v.toInt)) G P Ex O T V ∧ (∀ j, j < lh v.toInt.natAbs → L' (1024 * r + j) = nI (dgh v.toInt.natAbs j)) ∧ (∀ i, (i < 1024 * r ∨ 1024 * r + 4 ≤ i) → L' i = L i) ∧ ∀ q, (q < a ∨ a + 10 ≤ q) → f2 q = f q)) args s 0 0 (fun q => (pZ K).heap.size ≤ q)) (F0 m 33 ls []) := by
    intro d
    have hl4 : lh v.toInt.natAbs ≤ 4 := lh_le.mpr hM
    induction d with
    | zero =>
      intro k hk Y hY hYk F LL H0 lc0 ls hl hz hS hm hD hO hF
      have hz0 : Y = 0 := by
        have h1 := (lh_le (m := v.toInt.natAbs) (k := k)).mp (by omega)
        rw [Nat.div_eq_of_lt h1] at hYk; omega
      refine lv_lload hx hb d_Mo_set_33 (lv_at hl 3 rfl) ?_
      refine lv_lconst (v := 0) hx hb d_Mo_set_35 (by decide) ?_
      refine W.lcmp hx hb d_Mo_set_36 ?_
      refine lv_if_eq (tgt := 91) hx hb d_Mo_set_37 (by decide) (fun _ => ?_) (fun cw => absurd cw (not_not_intro ((lg_cmp_eq _ _).mpr ((lo_z hY).mpr hz0))))
      refine lv_aload_n hx hb d_Mo_set_91 rfl (lv_at hl 0 rfl) ?_
      refine pw_get X hS (hm.1) pc_Mo 2 (by decide) w_fl_Mo_14 rfl (v := .ref (a + 2)) rfl d_Mo_set_92 ?_
      refine lv_iload_n hx hb d_Mo_set_95 rfl (lv_at hl 1 rfl) ?_
      refine lv_iload hx hb d_Mo_set_96 (lv_at hl 4 rfl) ?_
      refine pw_ist X hS (hm.2.2.1) (vp_in_nI (by omega) (by omega)) d_Mo_set_98 (fun H1 lc1 hy1 hS1 => ?_)
      have hz1 := hy1.trans hz; clear hy1 hS hz
      rw [show (nI r).toNatClampNeg = r from nI_clamp (by omega)] at hS1
      replace hS1 : pw_S K (pw_up F (a + 2) (.inl (pE K 0, 160, .inl (upd Z r (nI k))))) _ _ := hS1
      exact pw_vret X hS1 hr ⟨rfl, hz1, LL, by rw [show lh v.toInt.natAbs = k by omega]; exact hm.uZ, by rw [show lh v.toInt.natAbs = k by omega]; exact hD, hO, fun q hq => (pw_n1 (by omega)).trans (hF q hq)⟩ (show 0 ≤ 0 by omega) (show 0 ≤ 0 by omega) d_Mo_set_99
    | succ d ih =>
      intro k hk Y hY hYk F LL H0 lc0 ls hl hz hS hm hD hO hF
      have hz0 : ¬ Y = 0 := by
        intro q
        have h1 : ¬ v.toInt.natAbs < B16 ^ k := fun z => absurd (lh_le.mpr z) (by omega)
        have h2 : v.toInt.natAbs / B16 ^ k = 0 := by rw [← hYk, q]; rfl
        exact h1 ((Nat.div_eq_zero_iff_lt (Nat.pow_pos (by decide))).mp h2)
      refine lv_lload hx hb d_Mo_set_33 (lv_at hl 3 rfl) ?_
      refine lv_lconst (v := 0) hx hb d_Mo_set_35 (by decide) ?_
      refine W.lcmp hx hb d_Mo_set_36 ?_
      refine lv_if_eq (tgt := 91) hx hb d_Mo_set_37 (by decide) (fun cw => absurd cw (fun q => hz0 ((lo_z hY).mp ((lg_cmp_eq _ _).mp q)))) (fun _ => ?_)
      refine lv_lload hx hb d_Mo_set_40 (lv_at hl 3 rfl) ?_
      refine pw_ldc2 X w_kl_Mo_43 d_Mo_set_42 ?_
      refine lv_lrem hx hb d_Mo_set_45 (by decide) ?_
      refine lv_topl (fun yy ey => ?_)
      obtain rfl : yy = Int64.ofInt (Y.tmod 65536) := by rw [ey]; exact lo_rem hY
      clear ey
      refine lv_lstore (lv' := [(7, .long (Int64.ofInt (Y.tmod 65536))), (0, .ref a), (1, .int (nI r)), (2, .long v), (4, .long (Int64.ofInt Y)), (6, .int (nI k))]) hx hb d_Mo_set_46 hl (by decide) rfl (fun ls hl => ?_)
      refine lv_aload_n hx hb d_Mo_set_48 rfl (lv_at hl 1 rfl) ?_
      refine pw_get X hS (hm.1) pc_Mo 1 (by decide) w_fl_Mo_8 rfl (v := .ref (a + 1)) rfl d_Mo_set_49 ?_
      refine lv_sipush (v := 1024) hx hb d_Mo_set_52 (by decide) ?_
      refine lv_iload_n hx hb d_Mo_set_55 rfl (lv_at hl 2 rfl) ?_
      refine lv_imul hx hb d_Mo_set_56 ?_
      refine lv_topi (fun yy ey => ?_)
      obtain rfl : yy = nI (1024 * r) := by rw [ey]; exact nI_mul 1024 r
      clear ey
      refine lv_iload hx hb d_Mo_set_57 (lv_at hl 5 rfl) ?_
      refine lv_iadd hx hb d_Mo_set_59 ?_
      refine lv_topi (fun yy ey => ?_)
      obtain rfl : yy = nI (1024 * r + k) := by rw [ey]; exact nI_add _ _
      clear ey
      refine lv_lload hx hb d_Mo_set_60 (lv_at hl 0 rfl) ?_
      refine lv_lconst (v := 0) hx hb d_Mo_set_62 (by decide) ?_
      refine W.lcmp hx hb d_Mo_set_63 ?_
      refine lv_if_ge (tgt := 73) hx hb d_Mo_set_64 (by decide) (fun cn => ?_) (fun cn => ?_)
      · refine lv_lload hx hb d_Mo_set_73 (lv_at hl 0 rfl) ?_
        refine lv_l2i hx hb d_Mo_set_75 rfl ?_
        refine lv_topi (fun yy ey => ?_)
        obtain rfl : yy = nI (dgh v.toInt.natAbs k) := by rw [ey]; unfold dgh; rw [← hYk]; exact lo_abs2 (fun q => absurd ((lg_cmp_lt _ _).mpr ((lo_lt (tmod_in Y)).mpr q)) (Int32.not_lt.mpr cn))
        clear ey
        refine pw_ist X hS (hm.2.1) (vp_in_nI (by omega) (by omega)) d_Mo_set_76 (fun H1 lc1 hy1 hS1 => ?_)
        have hz1 := hy1.trans hz; clear hy1 hS hz
        rw [show (nI (1024 * r + k)).toNatClampNeg = 1024 * r + k from nI_clamp (by omega)] at hS1
        replace hS1 : pw_S K (pw_up F (a + 1) (.inl (pE K 0, 163840, .inl (upd LL (1024 * r + k) (nI (dgh v.toInt.natAbs k)))))) _ _ := hS1
        refine lv_lload hx hb d_Mo_set_77 (lv_at hl 4 rfl) ?_
        refine pw_ldc2 X w_kl_Mo_43 d_Mo_set_79 ?_
        refine lv_ldiv hx hb d_Mo_set_82 (by decide) ?_
        refine lv_topl (fun yy ey => ?_)
        obtain rfl : yy = Int64.ofInt (Y.tdiv 65536) := by rw [ey]; exact lo_div hY
        clear ey
        refine lv_lstore (lv' := [(4, .long (Int64.ofInt (Y.tdiv 65536))), (7, .long (Int64.ofInt (Y.tmod 65536))), (0, .ref a), (1, .int (nI r)), (2, .long v), (6, .int (nI k))]) hx hb d_Mo_set_83 hl (by decide) rfl (fun ls hl => ?_)
        refine lv_iinc (v := nI (k + 1)) (lv' := [(6, .int (nI (k + 1))), (4, .long (Int64.ofInt (Y.tdiv 65536))), (7, .long (Int64.ofInt (Y.tmod 65536))), (0, .ref a), (1, .int (nI r)), (2, .long v)]) hx hb d_Mo_set_85 hl (k := 5) rfl (nI_succ k).symm (by decide) rfl (fun ls hl => ?_)
        refine lv_goto (tgt := 33) hx hb d_Mo_set_88 (by decide) ?_
        refine ih (k + 1) (by omega) (Y.tdiv 65536) (tdiv_in hY) (by rw [tdiv_abs, hYk, Nat.div_div_eq_div_mul, ← Nat.pow_succ]) _ _ _ _ ls (lv_sub hl [3, 4, 5, 1, 0] rfl) hz1 hS1 hm.uL (fun j hj => ?_) (fun i hi2 => ?_) (fun q hq => (pw_n1 (by omega)).trans (hF q hq))
        · by_cases e : j = k
          · subst e; exact upd_self _ _ _
          · rw [upd_ne _ _ (by omega)]; exact hD j (by omega)
        · rw [upd_ne _ _ (by omega)]; exact hO i hi2
      · refine lv_lload hx hb d_Mo_set_67 (lv_at hl 0 rfl) ?_
        refine lv_lneg hx hb d_Mo_set_69 ?_
        refine lv_goto (tgt := 75) hx hb d_Mo_set_70 (by decide) ?_
        refine lv_l2i hx hb d_Mo_set_75 rfl ?_
        refine lv_topi (fun yy ey => ?_)
        obtain rfl : yy = nI (dgh v.toInt.natAbs k) := by rw [ey]; unfold dgh; rw [← hYk]; exact lo_abs1 ((lo_lt (tmod_in Y)).mp ((lg_cmp_lt _ _).mp (Int32.not_le.mp cn)))
        clear ey
        refine pw_ist X hS (hm.2.1) (vp_in_nI (by omega) (by omega)) d_Mo_set_76 (fun H1 lc1 hy1 hS1 => ?_)
        have hz1 := hy1.trans hz; clear hy1 hS hz
        rw [show (nI (1024 * r + k)).toNatClampNeg = 1024 * r + k from nI_clamp (by omega)] at hS1
        replace hS1 : pw_S K (pw_up F (a + 1) (.inl (pE K 0, 163840, .inl (upd LL (1024 * r + k) (nI (dgh v.toInt.natAbs k)))))) _ _ := hS1
        refine lv_lload hx hb d_Mo_set_77 (lv_at hl 4 rfl) ?_
        refine pw_ldc2 X w_kl_Mo_43 d_Mo_set_79 ?_
        refine lv_ldiv hx hb d_Mo_set_82 (by decide) ?_
        refine lv_topl (fun yy ey => ?_)
        obtain rfl : yy = Int64.ofInt (Y.tdiv 65536) := by rw [ey]; exact lo_div hY
        clear ey
        refine lv_lstore (lv' := [(4, .long (Int64.ofInt (Y.tdiv 65536))), (7, .long (Int64.ofInt (Y.tmod 65536))), (0, .ref a), (1, .int (nI r)), (2, .long v), (6, .int (nI k))]) hx hb d_Mo_set_83 hl (by decide) rfl (fun ls hl => ?_)
        refine lv_iinc (v := nI (k + 1)) (lv' := [(6, .int (nI (k + 1))), (4, .long (Int64.ofInt (Y.tdiv 65536))), (7, .long (Int64.ofInt (Y.tmod 65536))), (0, .ref a), (1, .int (nI r)), (2, .long v)]) hx hb d_Mo_set_85 hl (k := 5) rfl (nI_succ k).symm (by decide) rfl (fun ls hl => ?_)
        refine lv_goto (tgt := 33) hx hb d_Mo_set_88 (by decide) ?_
        refine ih (k + 1) (by omega) (Y.tdiv 65536) (tdiv_in hY) (by rw [tdiv_abs, hYk, Nat.div_div_eq_div_mul, ← Nat.pow_succ]) _ _ _ _ ls (lv_sub hl [3, 4, 5, 1, 0] rfl) hz1 hS1 hm.uL (fun j hj => ?_) (fun i hi2 => ?_) (fun q hq => (pw_n1 (by omega)).trans (hF q hq))
        · by_cases e : j = k
          · subst e; exact upd_self _ _ _
          · rw [upd_ne _ _ (by omega)]; exact hD j (by omega)
        · rw [upd_ne _ _ (by omega)]; exact hO i hi2
  refine lv_lload_n hx hb d_Mo_set_0 rfl (lv_at hl 2 rfl) ?_
  refine lv_lstore (lv' := [(4, .long v), (0, .ref a), (1, .int (nI r)), (2, .long v)]) hx hb d_Mo_set_1 hl (by decide) rfl (fun ls hl => ?_)
  refine lv_iconst (v := 0) hx hb d_Mo_set_3 (by decide) ?_
  refine lv_istore (lv' := [(6, .int 0), (4, .long v), (0, .ref a), (1, .int (nI r)), (2, .long v)]) hx hb d_Mo_set_4 hl (by decide) rfl (fun ls hl => ?_)
  refine lv_aload_n hx hb d_Mo_set_6 rfl (lv_at hl 2 rfl) ?_
  refine pw_get X hS (hm.1) pc_Mo 3 (by decide) w_fl_Mo_17 rfl (v := .ref (a + 3)) rfl d_Mo_set_7 ?_
  refine lv_iload_n hx hb d_Mo_set_10 rfl (lv_at hl 3 rfl) ?_
  refine lv_lload_n hx hb d_Mo_set_11 rfl (lv_at hl 4 rfl) ?_
  refine lv_lconst (v := 0) hx hb d_Mo_set_12 (by decide) ?_
  refine W.lcmp hx hb d_Mo_set_13 ?_
  refine lv_if_ge (tgt := 21) hx hb d_Mo_set_14 (by decide) (fun c1 => ?_) (fun c1 => ?_)
  · have hge : ¬ v.toInt < 0 := fun q => absurd ((lg_cmp_lt v 0).mpr (by rw [hv]; exact (lo_lt hi).mpr q)) (Int32.not_lt.mpr c1)
    refine lv_lload_n hx hb d_Mo_set_21 rfl (lv_at hl 4 rfl) ?_
    refine lv_lconst (v := 0) hx hb d_Mo_set_22 (by decide) ?_
    refine W.lcmp hx hb d_Mo_set_23 ?_
    refine lv_if_le (tgt := 31) hx hb d_Mo_set_24 (by decide) (fun c2 => ?_) (fun c2 => ?_)
    · have hle : ¬ 0 < v.toInt := fun q => absurd ((lg_cmp_gt v 0).mpr (by rw [hv]; exact (lo_gt hi).mpr q)) (Int32.not_lt.mpr c2)
      refine lv_iconst (v := 0) hx hb d_Mo_set_31 (by decide) ?_
      refine lv_topi (fun yy ey => ?_)
      obtain rfl : yy = sgI v.toInt := by rw [ey]; unfold sgI; rw [if_neg hge, if_pos (by omega)]
      clear ey
      refine pw_ist X hS (hm.2.2.2.1) (vp_in_nI (by omega) (by omega)) d_Mo_set_32 (fun H1 lc1 hy1 hS1 => ?_)
      have hz1 := hy1.trans hz; clear hy1 hS hz
      rw [show (nI r).toNatClampNeg = r from nI_clamp (by omega)] at hS1
      replace hS1 : pw_S K (pw_up f (a + 3) (.inl (pE K 0, 160, .inl (upd S r (sgI v.toInt))))) _ _ := hS1
      refine loop _ 0 (Nat.zero_add _) v.toInt hi (by rw [Nat.pow_zero, Nat.div_one]) _ L _ _ ls (by rw [← hv]; exact lv_sub hl [2, 3, 4, 1, 0] rfl) hz1 hS1 hm.uS (fun j hj => absurd hj (Nat.not_lt_zero j)) (fun i _ => rfl) (fun q hq => pw_n1 (by omega))
    · have hgt : 0 < v.toInt := (lo_gt hi).mp (by rw [← hv]; exact (lg_cmp_gt v 0).mp (Int32.not_le.mp c2))
      refine lv_iconst (v := 1) hx hb d_Mo_set_27 (by decide) ?_
      refine lv_goto (tgt := 32) hx hb d_Mo_set_28 (by decide) ?_
      refine lv_topi (fun yy ey => ?_)
      obtain rfl : yy = sgI v.toInt := by rw [ey]; unfold sgI; rw [if_neg hge, if_neg (by omega)]
      clear ey
      refine pw_ist X hS (hm.2.2.2.1) (vp_in_nI (by omega) (by omega)) d_Mo_set_32 (fun H1 lc1 hy1 hS1 => ?_)
      have hz1 := hy1.trans hz; clear hy1 hS hz
      rw [show (nI r).toNatClampNeg = r from nI_clamp (by omega)] at hS1
      replace hS1 : pw_S K (pw_up f (a + 3) (.inl (pE K 0, 160, .inl (upd S r (sgI v.toInt))))) _ _ := hS1
      refine loop _ 0 (Nat.zero_add _) v.toInt hi (by rw [Nat.pow_zero, Nat.div_one]) _ L _ _ ls (by rw [← hv]; exact lv_sub hl [2, 3, 4, 1, 0] rfl) hz1 hS1 hm.uS (fun j hj => absurd hj (Nat.not_lt_zero j)) (fun i _ => rfl) (fun q hq => pw_n1 (by omega))
  · have hlt : v.toInt < 0 := (lo_lt hi).mp (by rw [← hv]; exact (lg_cmp_lt v 0).mp (Int32.not_le.mp c1))
    refine lv_iconst (v := -1) hx hb d_Mo_set_17 (by decide) ?_
    refine lv_goto (tgt := 32) hx hb d_Mo_set_18 (by decide) ?_
    refine lv_topi (fun yy ey => ?_)
    obtain rfl : yy = sgI v.toInt := by rw [ey]; unfold sgI; rw [if_pos hlt]
    clear ey
    refine pw_ist X hS (hm.2.2.2.1) (vp_in_nI (by omega) (by omega)) d_Mo_set_32 (fun H1 lc1 hy1 hS1 => ?_)
    have hz1 := hy1.trans hz; clear hy1 hS hz
    rw [show (nI r).toNatClampNeg = r from nI_clamp (by omega)] at hS1
    replace hS1 : pw_S K (pw_up f (a + 3) (.inl (pE K 0, 160, .inl (upd S r (sgI v.toInt))))) _ _ := hS1
    refine loop _ 0 (Nat.zero_add _) v.toInt hi (by rw [Nat.pow_zero, Nat.div_one]) _ L _ _ ls (by rw [← hv]; exact lv_sub hl [2, 3, 4, 1, 0] rfl) hz1 hS1 hm.uS (fun j hj => absurd hj (Nat.not_lt_zero j)) (fun i _ => rfl) (fun q hq => pw_n1 (by omega))
theorem d_Mo_trimPoly_0 : decode b_Mo_trimPoly 0 = .ok (.aload_n 0, 1) := by decide +kernel
theorem d_Mo_trimPoly_1 : decode b_Mo_trimPoly 1 = .ok (.getfield 20, 3) := by decide +kernel
theorem d_Mo_trimPoly_4 : decode b_Mo_trimPoly 4 = .ok (.iload_n 1, 1) := by decide +kernel
theorem d_Mo_trimPoly_5 : decode b_Mo_trimPoly 5 = .ok (.iload_n 2, 1) := by decide +kernel
theorem d_Mo_trimPoly_6 : decode b_Mo_trimPoly 6 = .ok (.iastore, 1) := by decide +kernel
theorem d_Mo_trimPoly_7 : decode b_Mo_trimPoly 7 = .ok (.aload_n 0, 1) := by decide +kernel
theorem d_Mo_trimPoly_8 : decode b_Mo_trimPoly 8 = .ok (.getfield 20, 3) := by decide +kernel
theorem d_Mo_trimPoly_11 : decode b_Mo_trimPoly 11 = .ok (.iload_n 1, 1) := by decide +kernel
theorem d_Mo_trimPoly_12 : decode b_Mo_trimPoly 12 = .ok (.iaload, 1) := by decide +kernel
theorem d_Mo_trimPoly_13 : decode b_Mo_trimPoly 13 = .ok (.ifCond .lt 35, 3) := by decide +kernel
theorem d_Mo_trimPoly_16 : decode b_Mo_trimPoly 16 = .ok (.aload_n 0, 1) := by decide +kernel
theorem d_Mo_trimPoly_17 : decode b_Mo_trimPoly 17 = .ok (.getfield 17, 3) := by decide +kernel
theorem d_Mo_trimPoly_20 : decode b_Mo_trimPoly 20 = .ok (.bipush 9, 2) := by decide +kernel
theorem d_Mo_trimPoly_22 : decode b_Mo_trimPoly 22 = .ok (.iload_n 1, 1) := by decide +kernel
theorem d_Mo_trimPoly_23 : decode b_Mo_trimPoly 23 = .ok (.imul, 1) := by decide +kernel
theorem d_Mo_trimPoly_24 : decode b_Mo_trimPoly 24 = .ok (.aload_n 0, 1) := by decide +kernel
theorem d_Mo_trimPoly_25 : decode b_Mo_trimPoly 25 = .ok (.getfield 20, 3) := by decide +kernel
theorem d_Mo_trimPoly_28 : decode b_Mo_trimPoly 28 = .ok (.iload_n 1, 1) := by decide +kernel
theorem d_Mo_trimPoly_29 : decode b_Mo_trimPoly 29 = .ok (.iaload, 1) := by decide +kernel
theorem d_Mo_trimPoly_30 : decode b_Mo_trimPoly 30 = .ok (.iadd, 1) := by decide +kernel
theorem d_Mo_trimPoly_31 : decode b_Mo_trimPoly 31 = .ok (.iaload, 1) := by decide +kernel
theorem d_Mo_trimPoly_32 : decode b_Mo_trimPoly 32 = .ok (.ifCond .ne 16, 3) := by decide +kernel
theorem d_Mo_trimPoly_35 : decode b_Mo_trimPoly 35 = .ok (.aload_n 0, 1) := by decide +kernel
theorem d_Mo_trimPoly_36 : decode b_Mo_trimPoly 36 = .ok (.getfield 20, 3) := by decide +kernel
theorem d_Mo_trimPoly_39 : decode b_Mo_trimPoly 39 = .ok (.iload_n 1, 1) := by decide +kernel
theorem d_Mo_trimPoly_40 : decode b_Mo_trimPoly 40 = .ok (.dup2, 1) := by decide +kernel
theorem d_Mo_trimPoly_41 : decode b_Mo_trimPoly 41 = .ok (.iaload, 1) := by decide +kernel
theorem d_Mo_trimPoly_42 : decode b_Mo_trimPoly 42 = .ok (.iconst 1, 1) := by decide +kernel
theorem d_Mo_trimPoly_43 : decode b_Mo_trimPoly 43 = .ok (.isub, 1) := by decide +kernel
theorem d_Mo_trimPoly_44 : decode b_Mo_trimPoly 44 = .ok (.iastore, 1) := by decide +kernel
theorem d_Mo_trimPoly_45 : decode b_Mo_trimPoly 45 = .ok (.goto (-38), 3) := by decide +kernel
theorem d_Mo_trimPoly_48 : decode b_Mo_trimPoly 48 = .ok (.return_, 1) := by decide +kernel
set_option maxHeartbeats 4000000 in
set_option maxRecDepth 100000 in
theorem c_Mo_trimPoly (l : Launch) (K : pw_K) (f : pw_F) (a sz j t : Nat) (hj : j < 10) (ht : t ≤ 9) (Pv : Nat → Int) (th wr : Int32) (L Z S G P Ex O T V : Nat → Int32) (hm : mo K f a th wr L Z S G P Ex O T V) (hS0 : ∀ i, i < t → S (9 * j + i) = sgI (Pv i)) : pw_C l K y_Mo_trimPoly b_Mo_trimPoly 3 none (rmk 1 0 0) f [.ref a, .int (nI j), .int (dI t)] sz (fun x f2 z => x = none ∧ z = sz ∧ mo K f2 a th wr L Z S (upd G j (dI (top Pv t))) P Ex O T V ∧ ∀ q, q ≠ a + 4 → f2 q = f q) := by
  refine pw_start (by decide) (Nat.le_of_ble_eq_true rfl) ?_
  intro p e s m args below meth c ls X hr hin hz hS hl
  have hl : lv_has ls 3 [(0, .ref a), (1, .int (nI j)), (2, .int (dI t))] := hl
  have hx := X.1
  have hb := X.2.1
  generalize s.heap = H0 at hz hS ⊢
  generalize ([] : List Loc) = lc0 at hS ⊢
  have loop : ∀ (u : Nat), u ≤ t → ∀ (F : pw_F) (GG : Nat → Int32) (H0 : Heap) (lc0 : List Loc) (ls : Array Slot), lv_has ls 3 [(0, .ref a), (1, .int (nI j)), (2, .int (dI t))] → Array.size H0 = sz → pw_S K F H0 lc0 → mo K F a th wr L Z S GG P Ex O T V → GG = upd G j (dI u) → (∀ q, q ≠ a + 4 → F q = f q) → top Pv u = top Pv t → W p l e (rmk 1 0 0) s m args below meth c H0 lc0 0 0 (MQ below (pw_Q K (fun x f2 z => x = none ∧ z = sz ∧ mo K f2 a th wr L Z S (upd G j (dI (top Pv t))) P Ex O T V ∧ ∀ q, q ≠ a + 4 → f2 q = f q)) args s 0 0 (fun q => (pZ K).heap.size ≤ q)) (F0 m 7 ls []) := by
    intro u
    induction u with
    | zero =>
      intro hu F GG H0 lc0 ls hl hz hS hm hG hF hT
      refine lv_aload_n hx hb d_Mo_trimPoly_7 rfl (lv_at hl 0 rfl) ?_
      refine pw_get X hS (hm.1) pc_Mo 4 (by decide) w_fl_Mo_20 rfl (v := .ref (a + 4)) rfl d_Mo_trimPoly_8 ?_
      refine lv_iload_n hx hb d_Mo_trimPoly_11 rfl (lv_at hl 1 rfl) ?_
      refine pw_ild X hS (hm.2.2.2.2.1) (vp_in_nI (by omega) (by omega)) d_Mo_trimPoly_12 ?_
      refine lv_topi (fun yy ey => ?_)
      obtain rfl : yy = dI 0 := by rw [ey]; rw [nI_clamp (by omega), hG]; exact upd_self _ _ _
      clear ey
      refine lv_if_lt (tgt := 48) hx hb d_Mo_trimPoly_13 (by decide) (fun _ => ?_) (fun cw => absurd cw (not_not_intro (by decide)))
      exact pw_vret X hS hr ⟨rfl, hz, by rw [← hT]; rw [hG] at hm; exact hm, hF⟩ (show 0 ≤ 0 by omega) (show 0 ≤ 0 by omega) d_Mo_trimPoly_48
    | succ u ih =>
      intro hu F GG H0 lc0 ls hl hz hS hm hG hF hT
      refine lv_aload_n hx hb d_Mo_trimPoly_7 rfl (lv_at hl 0 rfl) ?_
      refine pw_get X hS (hm.1) pc_Mo 4 (by decide) w_fl_Mo_20 rfl (v := .ref (a + 4)) rfl d_Mo_trimPoly_8 ?_
      refine lv_iload_n hx hb d_Mo_trimPoly_11 rfl (lv_at hl 1 rfl) ?_
      refine pw_ild X hS (hm.2.2.2.2.1) (vp_in_nI (by omega) (by omega)) d_Mo_trimPoly_12 ?_
      refine lv_topi (fun yy ey => ?_)
      obtain rfl : yy = nI u := by rw [ey]; rw [nI_clamp (by omega), hG, upd_self]; exact dI_s u
      clear ey
      refine lv_if_lt (tgt := 48) hx hb d_Mo_trimPoly_13 (by decide) (fun cw => absurd cw (nI_pos (by omega))) (fun _ => ?_)
      refine lv_aload_n hx hb d_Mo_trimPoly_16 rfl (lv_at hl 0 rfl) ?_
      refine pw_get X hS (hm.1) pc_Mo 3 (by decide) w_fl_Mo_17 rfl (v := .ref (a + 3)) rfl d_Mo_trimPoly_17 ?_
      refine lv_bipush (v := 9) hx hb d_Mo_trimPoly_20 (by decide) ?_
      refine lv_iload_n hx hb d_Mo_trimPoly_22 rfl (lv_at hl 1 rfl) ?_
      refine lv_imul hx hb d_Mo_trimPoly_23 ?_
      refine lv_aload_n hx hb d_Mo_trimPoly_24 rfl (lv_at hl 0 rfl) ?_
      refine pw_get X hS (hm.1) pc_Mo 4 (by decide) w_fl_Mo_20 rfl (v := .ref (a + 4)) rfl d_Mo_trimPoly_25 ?_
      refine lv_iload_n hx hb d_Mo_trimPoly_28 rfl (lv_at hl 1 rfl) ?_
      refine pw_ild X hS (hm.2.2.2.2.1) (vp_in_nI (by omega) (by omega)) d_Mo_trimPoly_29 ?_
      refine lv_topi (fun yy ey => ?_)
      obtain rfl : yy = nI u := by rw [ey]; rw [nI_clamp (by omega), hG, upd_self]; exact dI_s u
      clear ey
      refine lv_iadd hx hb d_Mo_trimPoly_30 ?_
      refine lv_topi (fun yy ey => ?_)
      obtain rfl : yy = nI (9 * j + u) := by rw [ey]; rw [show (9 : Int32) = nI 9 from rfl, nI_mul, nI_add]
      clear ey
      refine pw_ild X hS (hm.2.2.2.1) (vp_in_nI (by omega) (by omega)) d_Mo_trimPoly_31 ?_
      refine lv_topi (fun yy ey => ?_)
      obtain rfl : yy = sgI (Pv u) := by rw [ey]; rw [nI_clamp (by omega)]; exact hS0 u (by omega)
      clear ey
      refine lv_if_ne (tgt := 48) hx hb d_Mo_trimPoly_32 (by decide) (fun cz => ?_) (fun cz => ?_)
      · have hP : ¬ Pv u = 0 := fun q => cz ((sgI_0 _).mpr q)
        exact pw_vret X hS hr ⟨rfl, hz, by rw [← hT]; unfold top; rw [if_neg hP, ← hG]; exact hm, hF⟩ (show 0 ≤ 0 by omega) (show 0 ≤ 0 by omega) d_Mo_trimPoly_48
      · have hP : Pv u = 0 := (sgI_0 _).mp cz
        refine lv_aload_n hx hb d_Mo_trimPoly_35 rfl (lv_at hl 0 rfl) ?_
        refine pw_get X hS (hm.1) pc_Mo 4 (by decide) w_fl_Mo_20 rfl (v := .ref (a + 4)) rfl d_Mo_trimPoly_36 ?_
        refine lv_iload_n hx hb d_Mo_trimPoly_39 rfl (lv_at hl 1 rfl) ?_
        refine lv_dup2_11 hx hb d_Mo_trimPoly_40 rfl rfl ?_
        refine pw_ild X hS (hm.2.2.2.2.1) (vp_in_nI (by omega) (by omega)) d_Mo_trimPoly_41 ?_
        refine lv_topi (fun yy ey => ?_)
        obtain rfl : yy = nI u := by rw [ey]; rw [nI_clamp (by omega), hG, upd_self]; exact dI_s u
        clear ey
        refine lv_iconst (v := 1) hx hb d_Mo_trimPoly_42 (by decide) ?_
        refine lv_isub hx hb d_Mo_trimPoly_43 ?_
        refine lv_topi (fun yy ey => ?_)
        obtain rfl : yy = dI u := by rw [ey]; rfl
        clear ey
        refine pw_ist X hS (hm.2.2.2.2.1) (vp_in_nI (by omega) (by omega)) d_Mo_trimPoly_44 (fun H1 lc1 hy1 hS1 => ?_)
        have hz1 := hy1.trans hz; clear hy1 hS hz
        rw [show (nI j).toNatClampNeg = j from nI_clamp (by omega)] at hS1
        replace hS1 : pw_S K (pw_up F (a + 4) (.inl (pE K 0, 10, .inl (upd GG j (dI u))))) _ _ := hS1
        refine lv_goto (tgt := 7) hx hb d_Mo_trimPoly_45 (by decide) ?_
        exact ih (by omega) _ _ _ _ ls hl hz1 hS1 hm.uG (by rw [hG]; exact upd_upd _ _ _ _) (fun q hq => (pw_n1 hq).trans (hF q hq)) (by rw [← hT]; show top Pv u = if Pv u = 0 then top Pv u else u + 1; rw [if_pos hP])
  refine lv_aload_n hx hb d_Mo_trimPoly_0 rfl (lv_at hl 0 rfl) ?_
  refine pw_get X hS (hm.1) pc_Mo 4 (by decide) w_fl_Mo_20 rfl (v := .ref (a + 4)) rfl d_Mo_trimPoly_1 ?_
  refine lv_iload_n hx hb d_Mo_trimPoly_4 rfl (lv_at hl 1 rfl) ?_
  refine lv_iload_n hx hb d_Mo_trimPoly_5 rfl (lv_at hl 2 rfl) ?_
  refine pw_ist X hS (hm.2.2.2.2.1) (vp_in_nI (by omega) (by omega)) d_Mo_trimPoly_6 (fun H1 lc1 hy1 hS1 => ?_)
  have hz1 := hy1.trans hz; clear hy1 hS hz
  rw [show (nI j).toNatClampNeg = j from nI_clamp (by omega)] at hS1
  replace hS1 : pw_S K (pw_up f (a + 4) (.inl (pE K 0, 10, .inl (upd G j (dI t))))) _ _ := hS1
  exact loop t (Nat.le_refl _) _ _ _ _ ls hl hz1 hS1 hm.uG rfl (fun q hq => pw_n1 hq) rfl
