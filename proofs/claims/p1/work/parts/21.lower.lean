/-! SturmDesk.put: Num.setLong, Poly.lower, Held.change -/
theorem upd_self (g : Nat → Int32) (k : Nat) (x : Int32) : upd g k x k = x := if_pos rfl
theorem upd_ne (g : Nat → Int32) {k j : Nat} (x : Int32) (h : j ≠ k) : upd g k x j = g j := if_neg h
theorem upd_id {g : Nat → Int32} {k : Nat} {x : Int32} (h : g k = x) : upd g k x = g := by
  funext j
  by_cases e : j = k
  · subst e; rw [upd_self, h]
  · exact upd_ne g x e
/-- a number: its limbs, its sign -/
def nuV (K : pw_K) (f : pw_F) (a n : Nat) (x : Int) : Prop := f a = some (.inr (0, [.ref (a + 1), .int (nI (lc x.natAbs)), .int (sgI x)])) ∧ lc x.natAbs ≤ n ∧ ∃ g : Nat → Int32, f (a + 1) = some (.inl (pE K 0, n, .inl g)) ∧ ∀ j, j < lc x.natAbs → g j = nI (dgt x.natAbs j)
/-- a number's cells, whatever they hold -/
def nuC (K : pw_K) (f : pw_F) (a n : Nat) : Prop := ∃ (l0 s0 : Int32) (g : Nat → Int32), f a = some (.inr (0, [.ref (a + 1), .int l0, .int s0])) ∧ f (a + 1) = some (.inl (pE K 0, n, .inl g))
theorem nuV.c {K : pw_K} {f : pw_F} {a n : Nat} {x : Int} (h : nuV K f a n x) : nuC K f a n := by
  obtain ⟨h1, -, g, h2, -⟩ := h
  exact ⟨_, _, g, h1, h2⟩
theorem nuV.mv {K : pw_K} {f f' : pw_F} {a n : Nat} {x : Int} (h : nuV K f a n x) (e : ∀ q, a ≤ q → q < a + 2 → f' q = f q) : nuV K f' a n x := by
  obtain ⟨h1, h2, g, h3, h4⟩ := h
  exact ⟨(e _ (by omega) (by omega)).trans h1, h2, g, (e _ (by omega) (by omega)).trans h3, h4⟩
theorem nuC.mv {K : pw_K} {f f' : pw_F} {a n : Nat} (h : nuC K f a n) (e : ∀ q, a ≤ q → q < a + 2 → f' q = f q) : nuC K f' a n := by
  obtain ⟨l0, s0, g, h1, h2⟩ := h
  exact ⟨l0, s0, g, (e _ (by omega) (by omega)).trans h1, (e _ (by omega) (by omega)).trans h2⟩
theorem zNu.v {K : pw_K} {f : pw_F} {a n : Nat} (h : zNu K f a n) : nuV K f a n 0 := ⟨h.1, Nat.zero_le _, _, h.2, fun j hj => absurd hj (Nat.not_lt_zero j)⟩
theorem sgI_0 (x : Int) : sgI x = 0 ↔ x = 0 := by
  unfold sgI
  by_cases h : x < 0
  · rw [if_pos h]
    constructor
    · intro q; exact absurd q (by decide)
    · intro q; omega
  · rw [if_neg h]
    by_cases h2 : x = 0
    · simp [h2]
    · rw [if_neg h2]
      constructor
      · intro q; exact absurd q (by decide)
      · intro q; exact absurd q h2
theorem d_Nu_setLong_0 : decode b_Nu_setLong 0 = .ok (.lload_n 1, 1) := by decide +kernel
theorem d_Nu_setLong_1 : decode b_Nu_setLong 1 = .ok (.lconst 0, 1) := by decide +kernel
theorem d_Nu_setLong_2 : decode b_Nu_setLong 2 = .ok (.lcmp, 1) := by decide +kernel
theorem d_Nu_setLong_3 : decode b_Nu_setLong 3 = .ok (.ifCond .ge 8, 3) := by decide +kernel
theorem d_Nu_setLong_6 : decode b_Nu_setLong 6 = .ok (.lload_n 1, 1) := by decide +kernel
theorem d_Nu_setLong_7 : decode b_Nu_setLong 7 = .ok (.lneg, 1) := by decide +kernel
theorem d_Nu_setLong_8 : decode b_Nu_setLong 8 = .ok (.goto 4, 3) := by decide +kernel
theorem d_Nu_setLong_11 : decode b_Nu_setLong 11 = .ok (.lload_n 1, 1) := by decide +kernel
theorem d_Nu_setLong_12 : decode b_Nu_setLong 12 = .ok (.lstore_n 3, 1) := by decide +kernel
theorem d_Nu_setLong_13 : decode b_Nu_setLong 13 = .ok (.aload_n 0, 1) := by decide +kernel
theorem d_Nu_setLong_14 : decode b_Nu_setLong 14 = .ok (.iconst 0, 1) := by decide +kernel
theorem d_Nu_setLong_15 : decode b_Nu_setLong 15 = .ok (.putfield 13, 3) := by decide +kernel
theorem d_Nu_setLong_18 : decode b_Nu_setLong 18 = .ok (.iconst 0, 1) := by decide +kernel
theorem d_Nu_setLong_19 : decode b_Nu_setLong 19 = .ok (.istore 5, 2) := by decide +kernel
theorem d_Nu_setLong_21 : decode b_Nu_setLong 21 = .ok (.iload 5, 2) := by decide +kernel
theorem d_Nu_setLong_23 : decode b_Nu_setLong 23 = .ok (.iconst 3, 1) := by decide +kernel
theorem d_Nu_setLong_24 : decode b_Nu_setLong 24 = .ok (.if_icmp .ge 41, 3) := by decide +kernel
theorem d_Nu_setLong_27 : decode b_Nu_setLong 27 = .ok (.lload_n 3, 1) := by decide +kernel
theorem d_Nu_setLong_28 : decode b_Nu_setLong 28 = .ok (.lconst 0, 1) := by decide +kernel
theorem d_Nu_setLong_29 : decode b_Nu_setLong 29 = .ok (.lcmp, 1) := by decide +kernel
theorem d_Nu_setLong_30 : decode b_Nu_setLong 30 = .ok (.ifCond .eq 35, 3) := by decide +kernel
theorem d_Nu_setLong_33 : decode b_Nu_setLong 33 = .ok (.aload_n 0, 1) := by decide +kernel
theorem d_Nu_setLong_34 : decode b_Nu_setLong 34 = .ok (.getfield 9, 3) := by decide +kernel
theorem d_Nu_setLong_37 : decode b_Nu_setLong 37 = .ok (.iload 5, 2) := by decide +kernel
theorem d_Nu_setLong_39 : decode b_Nu_setLong 39 = .ok (.lload_n 3, 1) := by decide +kernel
theorem d_Nu_setLong_40 : decode b_Nu_setLong 40 = .ok (.ldc2_w 26, 3) := by decide +kernel
theorem d_Nu_setLong_43 : decode b_Nu_setLong 43 = .ok (.land, 1) := by decide +kernel
theorem d_Nu_setLong_44 : decode b_Nu_setLong 44 = .ok (.l2i, 1) := by decide +kernel
theorem d_Nu_setLong_45 : decode b_Nu_setLong 45 = .ok (.iastore, 1) := by decide +kernel
theorem d_Nu_setLong_46 : decode b_Nu_setLong 46 = .ok (.lload_n 3, 1) := by decide +kernel
theorem d_Nu_setLong_47 : decode b_Nu_setLong 47 = .ok (.bipush 31, 2) := by decide +kernel
theorem d_Nu_setLong_49 : decode b_Nu_setLong 49 = .ok (.lushr, 1) := by decide +kernel
theorem d_Nu_setLong_50 : decode b_Nu_setLong 50 = .ok (.lstore_n 3, 1) := by decide +kernel
theorem d_Nu_setLong_51 : decode b_Nu_setLong 51 = .ok (.aload_n 0, 1) := by decide +kernel
theorem d_Nu_setLong_52 : decode b_Nu_setLong 52 = .ok (.iload 5, 2) := by decide +kernel
theorem d_Nu_setLong_54 : decode b_Nu_setLong 54 = .ok (.iconst 1, 1) := by decide +kernel
theorem d_Nu_setLong_55 : decode b_Nu_setLong 55 = .ok (.iadd, 1) := by decide +kernel
theorem d_Nu_setLong_56 : decode b_Nu_setLong 56 = .ok (.putfield 13, 3) := by decide +kernel
theorem d_Nu_setLong_59 : decode b_Nu_setLong 59 = .ok (.iinc 5 1, 3) := by decide +kernel
theorem d_Nu_setLong_62 : decode b_Nu_setLong 62 = .ok (.goto (-41), 3) := by decide +kernel
theorem d_Nu_setLong_65 : decode b_Nu_setLong 65 = .ok (.aload_n 0, 1) := by decide +kernel
theorem d_Nu_setLong_66 : decode b_Nu_setLong 66 = .ok (.lload_n 1, 1) := by decide +kernel
theorem d_Nu_setLong_67 : decode b_Nu_setLong 67 = .ok (.invokestatic 28, 3) := by decide +kernel
theorem d_Nu_setLong_70 : decode b_Nu_setLong 70 = .ok (.putfield 17, 3) := by decide +kernel
theorem d_Nu_setLong_73 : decode b_Nu_setLong 73 = .ok (.return_, 1) := by decide +kernel
set_option maxHeartbeats 4000000 in
set_option maxRecDepth 100000 in
theorem c_Nu_setLong (l : Launch) (K : pw_K) (f : pw_F) (a n sz : Nat) (hn : 3 ≤ n) (hn2 : n < 2 ^ 31) (hc : nuC K f a n) (v : Int64) : pw_C l K y_Nu_setLong b_Nu_setLong 6 none (rmk 2 0 0) f [.ref a, .long v] sz (fun r f2 z => r = none ∧ z = sz ∧ nuV K f2 a n v.toInt ∧ ∀ q, q ≠ a → q ≠ a + 1 → f2 q = f q) := by
  refine pw_start (by decide) (Nat.le_of_ble_eq_true rfl) ?_
  intro p e s m args below meth c ls X hr hin hz hS hl
  have hl : lv_has ls 6 [(0, .ref a), (1, .long v)] := hl
  have hx := X.1
  have hb := X.2.1
  generalize s.heap = H0 at hz hS ⊢
  generalize ([] : List Loc) = lc0 at hS ⊢
  obtain ⟨l0, s0, g, h0, h1⟩ := hc
  have hM := u_max v
  generalize hMe : v.toInt.natAbs = M at hM
  have fin : ∀ k : Nat, lc M = k → ∀ (F : pw_F) (G : Nat → Int32) (H0 : Heap) (lc0 : List Loc) (ls : Array Slot), lv_has ls 6 [(0, .ref a), (1, .long v), (3, .long (lN (M / B31 ^ k))), (5, .int (nI k))] → Array.size H0 = sz → pw_S K F H0 lc0 → F a = some (.inr (0, [.ref (a + 1), .int (nI k), .int s0])) → F (a + 1) = some (.inl (pE K 0, n, .inl G)) → (∀ j, j < k → G j = nI (dgt M j)) → (∀ q, q ≠ a → q ≠ a + 1 → F q = f q) → W p l e (rmk 2 0 0) s m args below meth c H0 lc0 0 0 (MQ below (pw_Q K (fun r f2 z => r = none ∧ z = sz ∧ nuV K f2 a n v.toInt ∧ ∀ q, q ≠ a → q ≠ a + 1 → f2 q = f q)) args s 0 0 (fun q => (pZ K).heap.size ≤ q)) (F0 m 65 ls []) := by
    intro k hk F G H0 lc0 ls hl hz hS ga gb hG hF
    refine lv_aload_n hx hb d_Nu_setLong_65 rfl (lv_at hl 0 rfl) ?_
    refine lv_lload_n hx hb d_Nu_setLong_66 rfl (lv_at hl 1 rfl) ?_
    refine pw_callSR X hS (As := [.long v]) (rest := [.ref a]) (r_Lo_signum l K F sz v) hz w_cd_Lo_signum w_ini_Lo w_ml_Nu_28 w_st_Lo_signum hd_Lo_signum rfl hl.1 (Nat.le_of_ble_eq_true rfl) d_Nu_setLong_67 ⟨Nat.le_of_ble_eq_true rfl, Nat.le_of_ble_eq_true rfl⟩ ⟨show 0 ≤ 0 by omega, show 0 ≤ 0 by omega⟩ ?_
    refine pw_put X hS (v := .int (sgI v.toInt)) (ga) pc_Nu 2 (by decide) w_fl_Nu_17 rfl rfl rfl rfl (Nat.le_of_ble_eq_true rfl) d_Nu_setLong_70 (fun H1 lc1 hy1 hS1 => ?_)
    have hz1 := hy1.trans hz; clear hy1 hS hz
    replace hS1 : pw_S K (pw_up F (a) (.inr (0, [.ref (a + 1), .int (nI k), .int (sgI v.toInt)]))) _ _ := hS1
    exact pw_vret X hS1 hr ⟨rfl, hz1, ⟨by rw [hMe, hk]; exact pw_up_self _ _ _, by rw [hMe, lc_le]; exact Nat.lt_of_lt_of_le (Nat.lt_of_le_of_lt hM (by decide)) (Nat.pow_le_pow_right (by decide) hn), G, (pw_up_ne (by omega)).trans gb, by rw [hMe, hk]; exact hG⟩, fun q q1 q2 => (pw_n1 q1).trans (hF q q1 q2)⟩ (show 0 ≤ 0 by omega) (show 0 ≤ 0 by omega) d_Nu_setLong_73
  have loop : ∀ (d k : Nat), k + d = 3 → k ≤ lc M → ∀ (F : pw_F) (G : Nat → Int32) (H0 : Heap) (lc0 : List Loc) (ls : Array Slot), lv_has ls 6 [(0, .ref a), (1, .long v), (3, .long (lN (M / B31 ^ k))), (5, .int (nI k))] → Array.size H0 = sz → pw_S K F H0 lc0 → F a = some (.inr (0, [.ref (a + 1), .int (nI k), .int s0])) → F (a + 1) = some (.inl (pE K 0, n, .inl G)) → (∀ j, j < k → G j = nI (dgt M j)) → (∀ q, q ≠ a → q ≠ a + 1 → F q = f q) → W p l e (rmk 2 0 0) s m args below meth c H0 lc0 0 0 (MQ below (pw_Q K (fun r f2 z => r = none ∧ z = sz ∧ nuV K f2 a n v.toInt ∧ ∀ q, q ≠ a → q ≠ a + 1 → f2 q = f q)) args s 0 0 (fun q => (pZ K).heap.size ≤ q)) (F0 m 21 ls []) := by
    intro d
    induction d with
    | zero =>
      intro k hk hlk F G H0 lc0 ls hl hz hS ga gb hG hF
      obtain rfl : k = 3 := by omega
      refine lv_iload hx hb d_Nu_setLong_21 (lv_at hl 3 rfl) ?_
      refine lv_iconst (v := 3) hx hb d_Nu_setLong_23 (by decide) ?_
      refine lv_icmp_ge (tgt := 65) hx hb d_Nu_setLong_24 (by decide) (fun _ => ?_) (fun cw => absurd cw (not_not_intro (Int32.le_refl _)))
      exact fin 3 (by have := (lc_le (m := M) (k := 3)).mpr (Nat.lt_of_le_of_lt hM (by decide)); omega) F G H0 lc0 ls hl hz hS ga gb hG hF
    | succ d ih =>
      intro k hk hlk F G H0 lc0 ls hl hz hS ga gb hG hF
      refine lv_iload hx hb d_Nu_setLong_21 (lv_at hl 3 rfl) ?_
      refine lv_iconst (v := 3) hx hb d_Nu_setLong_23 (by decide) ?_
      refine lv_icmp_ge (tgt := 65) hx hb d_Nu_setLong_24 (by decide) (fun cw => absurd cw (nI_ge (a := k) (b := 3) (by omega) (by omega))) (fun _ => ?_)
      refine lv_lload_n hx hb d_Nu_setLong_27 rfl (lv_at hl 2 rfl) ?_
      refine lv_lconst (v := 0) hx hb d_Nu_setLong_28 (by decide) ?_
      refine W.lcmp hx hb d_Nu_setLong_29 ?_
      have hs : M / B31 ^ k < 2 ^ 64 := Nat.lt_of_le_of_lt (Nat.div_le_self _ _) (Nat.lt_of_le_of_lt hM (by decide))
      refine lv_if_eq (tgt := 65) hx hb d_Nu_setLong_30 (by decide) (fun cw => ?_) (fun cw => ?_)
      · have hz0 := (u_z hs).mp ((lg_cmp_eq _ _).mp cw)
        exact fin k (by have := (lc_le (m := M) (k := k)).mpr ((Nat.div_eq_zero_iff_lt (Nat.pow_pos (by decide))).mp hz0); omega) F G H0 lc0 ls hl hz hS ga gb hG hF
      · have hz0 : ¬ M / B31 ^ k = 0 := fun q => cw ((lg_cmp_eq _ _).mpr ((u_z hs).mpr q))
        have hlk1 : k + 1 ≤ lc M := by
          have h2 := lc_le (m := M) (k := k)
          have h3 : ¬ M < B31 ^ k := fun q => hz0 (Nat.div_eq_of_lt q)
          have h4 : ¬ lc M ≤ k := fun q => h3 (h2.mp q)
          omega
        refine lv_aload_n hx hb d_Nu_setLong_33 rfl (lv_at hl 0 rfl) ?_
        refine pw_get X hS (ga) pc_Nu 0 (by decide) w_fl_Nu_9 rfl (v := .ref (a + 1)) rfl d_Nu_setLong_34 ?_
        refine lv_iload hx hb d_Nu_setLong_37 (lv_at hl 3 rfl) ?_
        refine lv_lload_n hx hb d_Nu_setLong_39 rfl (lv_at hl 2 rfl) ?_
        refine pw_ldc2 X w_kl_Nu_26 d_Nu_setLong_40 ?_
        refine lv_land hx hb d_Nu_setLong_43 ?_
        refine lv_l2i hx hb d_Nu_setLong_44 rfl ?_
        refine lv_topi (fun yy ey => ?_)
        obtain rfl : yy = nI (dgt M k) := by rw [ey]; exact u_and hs
        clear ey
        refine pw_ist X hS (gb) (vp_in_nI (by omega) (by omega)) d_Nu_setLong_45 (fun H1 lc1 hy1 hS1 => ?_)
        have hz1 := hy1.trans hz; clear hy1 hS hz
        replace hS1 : pw_S K (pw_up F (a + 1) (.inl (pE K 0, n, .inl (upd G (nI k).toNatClampNeg (nI (dgt M k)))))) _ _ := hS1
        refine lv_lload_n hx hb d_Nu_setLong_46 rfl (lv_at hl 2 rfl) ?_
        refine lv_bipush (v := 31) hx hb d_Nu_setLong_47 (by decide) ?_
        refine lv_lushr hx hb d_Nu_setLong_49 rfl ?_
        refine lv_topl (fun yy ey => ?_)
        obtain rfl : yy = lN (M / B31 ^ (k + 1)) := by rw [ey]; rw [u_shr hs, Nat.div_div_eq_div_mul, ← Nat.pow_succ]
        clear ey
        refine lv_lstore_n (lv' := [(3, .long (lN (M / B31 ^ (k + 1)))), (0, .ref a), (1, .long v), (5, .int (nI k))]) hx hb d_Nu_setLong_50 rfl hl (by decide) rfl (fun ls hl => ?_)
        refine lv_aload_n hx hb d_Nu_setLong_51 rfl (lv_at hl 1 rfl) ?_
        refine lv_iload hx hb d_Nu_setLong_52 (lv_at hl 3 rfl) ?_
        refine lv_iconst (v := 1) hx hb d_Nu_setLong_54 (by decide) ?_
        refine lv_iadd hx hb d_Nu_setLong_55 ?_
        refine lv_topi (fun yy ey => ?_)
        obtain rfl : yy = nI (k + 1) := by rw [ey]; exact (nI_succ k).symm
        clear ey
        refine pw_put X hS1 (v := .int (nI (k + 1))) ((pw_up_ne (by omega)).trans (ga)) pc_Nu 1 (by decide) w_fl_Nu_13 rfl rfl rfl rfl (Nat.le_of_ble_eq_true rfl) d_Nu_setLong_56 (fun H2 lc2 hy2 hS2 => ?_)
        have hz2 := hy2.trans hz1; clear hy2 hS1 hz1
        replace hS2 : pw_S K (pw_up (pw_up F (a + 1) (.inl (pE K 0, n, .inl (upd G (nI k).toNatClampNeg (nI (dgt M k)))))) (a) (.inr (0, [.ref (a + 1), .int (nI (k + 1)), .int s0]))) _ _ := hS2
        refine lv_iinc (v := nI (k + 1)) (lv' := [(5, .int (nI (k + 1))), (3, .long (lN (M / B31 ^ (k + 1)))), (0, .ref a), (1, .long v)]) hx hb d_Nu_setLong_59 hl (k := 3) rfl (nI_succ k).symm (by decide) rfl (fun ls hl => ?_)
        refine lv_goto (tgt := 21) hx hb d_Nu_setLong_62 (by decide) ?_
        refine ih (k + 1) (by omega) hlk1 _ (upd G (nI k).toNatClampNeg (nI (dgt M k))) _ _ ls (lv_sub hl [2, 3, 1, 0] rfl) hz2 hS2 (pw_up_self _ _ _) ((pw_up_ne (by omega)).trans (pw_up_self _ _ _)) (fun j hj => ?_) (fun q q1 q2 => (pw_n2 (by omega) (by omega)).trans (hF q q1 q2))
        rw [nI_clamp (by omega)]
        by_cases e : j = k
        · subst e; exact upd_self _ _ _
        · rw [upd_ne _ _ e]; exact hG j (by omega)
  refine lv_lload_n hx hb d_Nu_setLong_0 rfl (lv_at hl 1 rfl) ?_
  refine lv_lconst (v := 0) hx hb d_Nu_setLong_1 (by decide) ?_
  refine W.lcmp hx hb d_Nu_setLong_2 ?_
  refine lv_if_ge (tgt := 11) hx hb d_Nu_setLong_3 (by decide) (fun cv => ?_) (fun cv => ?_)
  · refine lv_lload_n hx hb d_Nu_setLong_11 rfl (lv_at hl 1 rfl) ?_
    refine lv_topl (fun yy ey => ?_)
    obtain rfl : yy = lN (M / B31 ^ 0) := by rw [ey]; rw [Nat.pow_zero, Nat.div_one, ← hMe]; exact u_pos (fun q => absurd ((lg_cmp_lt _ _).mpr q) (Int32.not_lt.mpr cv))
    clear ey
    refine lv_lstore_n (lv' := [(3, .long (lN (M / B31 ^ 0))), (0, .ref a), (1, .long v)]) hx hb d_Nu_setLong_12 rfl hl (by decide) rfl (fun ls hl => ?_)
    refine lv_aload_n hx hb d_Nu_setLong_13 rfl (lv_at hl 1 rfl) ?_
    refine lv_iconst (v := 0) hx hb d_Nu_setLong_14 (by decide) ?_
    refine pw_put X hS (v := .int 0) (h0) pc_Nu 1 (by decide) w_fl_Nu_13 rfl rfl rfl rfl (Nat.le_of_ble_eq_true rfl) d_Nu_setLong_15 (fun H1 lc1 hy1 hS1 => ?_)
    have hz1 := hy1.trans hz; clear hy1 hS hz
    replace hS1 : pw_S K (pw_up f (a) (.inr (0, [.ref (a + 1), .int 0, .int s0]))) _ _ := hS1
    refine lv_iconst (v := 0) hx hb d_Nu_setLong_18 (by decide) ?_
    refine lv_istore (lv' := [(5, .int 0), (3, .long (lN (M / B31 ^ 0))), (0, .ref a), (1, .long v)]) hx hb d_Nu_setLong_19 hl (by decide) rfl (fun ls hl => ?_)
    exact loop 3 0 rfl (Nat.zero_le _) _ g _ _ ls (lv_sub hl [2, 3, 1, 0] rfl) hz1 hS1 (pw_up_self _ _ _) ((pw_up_ne (by omega)).trans (h1)) (fun j hj => absurd hj (Nat.not_lt_zero j)) (fun q q1 q2 => pw_n1 q1)
  · refine lv_lload_n hx hb d_Nu_setLong_6 rfl (lv_at hl 1 rfl) ?_
    refine lv_lneg hx hb d_Nu_setLong_7 ?_
    refine lv_goto (tgt := 12) hx hb d_Nu_setLong_8 (by decide) ?_
    refine lv_topl (fun yy ey => ?_)
    obtain rfl : yy = lN (M / B31 ^ 0) := by rw [ey]; rw [Nat.pow_zero, Nat.div_one, ← hMe]; exact u_neg ((lg_cmp_lt _ _).mp (Int32.not_le.mp cv))
    clear ey
    refine lv_lstore_n (lv' := [(3, .long (lN (M / B31 ^ 0))), (0, .ref a), (1, .long v)]) hx hb d_Nu_setLong_12 rfl hl (by decide) rfl (fun ls hl => ?_)
    refine lv_aload_n hx hb d_Nu_setLong_13 rfl (lv_at hl 1 rfl) ?_
    refine lv_iconst (v := 0) hx hb d_Nu_setLong_14 (by decide) ?_
    refine pw_put X hS (v := .int 0) (h0) pc_Nu 1 (by decide) w_fl_Nu_13 rfl rfl rfl rfl (Nat.le_of_ble_eq_true rfl) d_Nu_setLong_15 (fun H1 lc1 hy1 hS1 => ?_)
    have hz1 := hy1.trans hz; clear hy1 hS hz
    replace hS1 : pw_S K (pw_up f (a) (.inr (0, [.ref (a + 1), .int 0, .int s0]))) _ _ := hS1
    refine lv_iconst (v := 0) hx hb d_Nu_setLong_18 (by decide) ?_
    refine lv_istore (lv' := [(5, .int 0), (3, .long (lN (M / B31 ^ 0))), (0, .ref a), (1, .long v)]) hx hb d_Nu_setLong_19 hl (by decide) rfl (fun ls hl => ?_)
    exact loop 3 0 rfl (Nat.zero_le _) _ g _ _ ls (lv_sub hl [2, 3, 1, 0] rfl) hz1 hS1 (pw_up_self _ _ _) ((pw_up_ne (by omega)).trans (h1)) (fun j hj => absurd hj (Nat.not_lt_zero j)) (fun q q1 q2 => pw_n1 q1)
/-- one more than the place of the last that isn't 0 among the first n -/
def top (P : Nat → Int) : Nat → Nat
  | 0 => 0
  | n + 1 => if P n = 0 then top P n else n + 1
theorem top_le (P : Nat → Int) : ∀ n, top P n ≤ n := by
  intro n
  induction n with
  | zero => exact Nat.le_refl _
  | succ n ih =>
    unfold top
    split
    · omega
    · exact Nat.le_refl _
theorem top_z (P : Nat → Int) : ∀ n j, top P n ≤ j → j < n → P j = 0 := by
  intro n
  induction n with
  | zero => intro j _ h; omega
  | succ n ih =>
    intro j h1 h2
    unfold top at h1
    split at h1
    · by_cases e : j = n
      · subst e; assumption
      · exact ih j h1 (by omega)
    · omega
def dI (t : Nat) : Int32 := nI t - 1
theorem dI_0 : dI 0 = -1 := by decide
theorem dI_s (t : Nat) : dI (t + 1) = nI t := nI_pred t
theorem dI_lt {t : Nat} (h : t < 2 ^ 31) : dI t < 0 ↔ t = 0 := by
  cases t with
  | zero => rw [dI_0]; decide
  | succ t => rw [dI_s]; exact ⟨fun q => absurd q (nI_pos (by omega)), fun q => by omega⟩
theorem dI_min {t n : Nat} (h : t ≤ n) (h2 : n < 2 ^ 31) : (if nI n - 1 < dI t then nI n - 1 else dI t) = dI t := by
  by_cases e : nI n - 1 < dI t
  · rw [if_pos e]
    exfalso
    have e : dI n < dI t := e
    cases t with
    | zero =>
      rw [dI_0] at e
      cases n with
      | zero => exact absurd e (by decide)
      | succ n =>
        rw [dI_s] at e
        exact absurd (Int32.lt_trans e (by decide : (-1 : Int32) < 0)) (nI_pos (by omega))
    | succ t =>
      cases n with
      | zero => omega
      | succ n => rw [dI_s, dI_s] at e; exact absurd e (nI_nlt (by omega) (by omega))
  · rw [if_neg e]
/-- a polynomial's numbers and their holder -/
def pyR (K : pw_K) (f : pw_F) (a n : Nat) : Prop := ∃ g : Nat → Option Nat, f (a + 1) = some (.inl (pE K 4, n, .inr (.inr (.inr (.inr g))))) ∧ ∀ k, k < n → g k = some (a + 2 + 2 * k)
def pyV (K : pw_K) (f : pw_F) (a n c : Nat) (P : Nat → Int) (t : Nat) : Prop := pyO f a (dI t) ∧ pyR K f a n ∧ ∀ k, k < n → nuV K f (a + 2 + 2 * k) c (P k)
theorem pyR.mv {K : pw_K} {f f' : pw_F} {a n : Nat} (h : pyR K f a n) (e : f' (a + 1) = f (a + 1)) : pyR K f' a n := by
  obtain ⟨g, h1, h2⟩ := h
  exact ⟨g, e.trans h1, h2⟩
theorem pyV.mv {K : pw_K} {f f' : pw_F} {a n c t : Nat} {P : Nat → Int} (h : pyV K f a n c P t) (e : ∀ q, a ≤ q → q < a + 2 + 2 * n → f' q = f q) : pyV K f' a n c P t :=
  ⟨(e _ (by omega) (by omega)).trans h.1, h.2.1.mv (e _ (by omega) (by omega)), fun k hk => (h.2.2 k hk).mv (fun q h1 h2 => e q (by omega) (by omega))⟩
theorem d_Py_lower_0 : decode b_Py_lower 0 = .ok (.aload_n 0, 1) := by decide +kernel
theorem d_Py_lower_1 : decode b_Py_lower 1 = .ok (.iload_n 1, 1) := by decide +kernel
theorem d_Py_lower_2 : decode b_Py_lower 2 = .ok (.aload_n 0, 1) := by decide +kernel
theorem d_Py_lower_3 : decode b_Py_lower 3 = .ok (.getfield 9, 3) := by decide +kernel
theorem d_Py_lower_6 : decode b_Py_lower 6 = .ok (.arraylength, 1) := by decide +kernel
theorem d_Py_lower_7 : decode b_Py_lower 7 = .ok (.iconst 1, 1) := by decide +kernel
theorem d_Py_lower_8 : decode b_Py_lower 8 = .ok (.isub, 1) := by decide +kernel
theorem d_Py_lower_9 : decode b_Py_lower 9 = .ok (.invokestatic 22, 3) := by decide +kernel
theorem d_Py_lower_12 : decode b_Py_lower 12 = .ok (.putfield 18, 3) := by decide +kernel
theorem d_Py_lower_15 : decode b_Py_lower 15 = .ok (.aload_n 0, 1) := by decide +kernel
theorem d_Py_lower_16 : decode b_Py_lower 16 = .ok (.getfield 18, 3) := by decide +kernel
theorem d_Py_lower_19 : decode b_Py_lower 19 = .ok (.ifCond .lt 31, 3) := by decide +kernel
theorem d_Py_lower_22 : decode b_Py_lower 22 = .ok (.aload_n 0, 1) := by decide +kernel
theorem d_Py_lower_23 : decode b_Py_lower 23 = .ok (.getfield 9, 3) := by decide +kernel
theorem d_Py_lower_26 : decode b_Py_lower 26 = .ok (.aload_n 0, 1) := by decide +kernel
theorem d_Py_lower_27 : decode b_Py_lower 27 = .ok (.getfield 18, 3) := by decide +kernel
theorem d_Py_lower_30 : decode b_Py_lower 30 = .ok (.aaload, 1) := by decide +kernel
theorem d_Py_lower_31 : decode b_Py_lower 31 = .ok (.getfield 36, 3) := by decide +kernel
theorem d_Py_lower_34 : decode b_Py_lower 34 = .ok (.ifCond .ne 16, 3) := by decide +kernel
theorem d_Py_lower_37 : decode b_Py_lower 37 = .ok (.aload_n 0, 1) := by decide +kernel
theorem d_Py_lower_38 : decode b_Py_lower 38 = .ok (.dup, 1) := by decide +kernel
theorem d_Py_lower_39 : decode b_Py_lower 39 = .ok (.getfield 18, 3) := by decide +kernel
theorem d_Py_lower_42 : decode b_Py_lower 42 = .ok (.iconst 1, 1) := by decide +kernel
theorem d_Py_lower_43 : decode b_Py_lower 43 = .ok (.isub, 1) := by decide +kernel
theorem d_Py_lower_44 : decode b_Py_lower 44 = .ok (.putfield 18, 3) := by decide +kernel
theorem d_Py_lower_47 : decode b_Py_lower 47 = .ok (.goto (-32), 3) := by decide +kernel
theorem d_Py_lower_50 : decode b_Py_lower 50 = .ok (.return_, 1) := by decide +kernel
set_option maxHeartbeats 4000000 in
set_option maxRecDepth 100000 in
theorem c_Py_lower (l : Launch) (K : pw_K) (f : pw_F) (a n c0 sz t : Nat) (d0 : Int32) (P : Nat → Int) (hn : n < 2 ^ 31) (ht : t ≤ n) (h0 : pyO f a d0) (h1 : pyR K f a n) (h2 : ∀ k, k < n → nuV K f (a + 2 + 2 * k) c0 (P k)) : pw_C l K y_Py_lower b_Py_lower 2 none (rmk 2 0 0) f [.ref a, .int (dI t)] sz (fun r f2 z => r = none ∧ z = sz ∧ pyO f2 a (dI (top P t)) ∧ ∀ q, q ≠ a → f2 q = f q) := by
  refine pw_start (by decide) (Nat.le_of_ble_eq_true rfl) ?_
  intro p e s m args below meth c ls X hr hin hz hS hl
  have hl : lv_has ls 2 [(0, .ref a), (1, .int (dI t))] := hl
  have hx := X.1
  have hb := X.2.1
  generalize s.heap = H0 at hz hS ⊢
  generalize ([] : List Loc) = lc0 at hS ⊢
  obtain ⟨g, hg, hgk⟩ := h1
  have loop : ∀ (u : Nat), u ≤ n → ∀ (F : pw_F) (H0 : Heap) (lc0 : List Loc) (ls : Array Slot), lv_has ls 2 [(0, .ref a), (1, .int (dI t))] → Array.size H0 = sz → pw_S K F H0 lc0 → F a = some (.inr (2, [.ref (a + 1), .int (dI u)])) → (∀ q, q ≠ a → F q = f q) → top P u = top P t → W p l e (rmk 2 0 0) s m args below meth c H0 lc0 0 0 (MQ below (pw_Q K (fun r f2 z => r = none ∧ z = sz ∧ pyO f2 a (dI (top P t)) ∧ ∀ q, q ≠ a → f2 q = f q)) args s 0 0 (fun q => (pZ K).heap.size ≤ q)) (F0 m 15 ls []) := by
    intro u
    induction u with
    | zero =>
      intro hu F H0 lc0 ls hl hz hS ga hF hT
      have gb := (hF (a + 1) (by omega)).trans hg
      refine lv_aload_n hx hb d_Py_lower_15 rfl (lv_at hl 0 rfl) ?_
      refine pw_get X hS (ga) pc_Py 1 (by decide) w_fl_Py_18 rfl (v := .int (dI 0)) rfl d_Py_lower_16 ?_
      refine lv_if_lt (tgt := 50) hx hb d_Py_lower_19 (by decide) (fun _ => ?_) (fun cw => absurd cw (not_not_intro (by decide)))
      exact pw_vret X hS hr ⟨rfl, hz, by rw [← hT]; exact ga, hF⟩ (show 0 ≤ 0 by omega) (show 0 ≤ 0 by omega) d_Py_lower_50
    | succ u ih =>
      intro hu F H0 lc0 ls hl hz hS ga hF hT
      have gb := (hF (a + 1) (by omega)).trans hg
      replace ga : F a = some (.inr (2, [.ref (a + 1), .int (nI u)])) := by rw [← dI_s]; exact ga
      have gn := ((h2 u (by omega)).mv (f' := F) (fun q q1 q2 => hF q (by omega))).1
      refine lv_aload_n hx hb d_Py_lower_15 rfl (lv_at hl 0 rfl) ?_
      refine pw_get X hS (ga) pc_Py 1 (by decide) w_fl_Py_18 rfl (v := .int (nI u)) rfl d_Py_lower_16 ?_
      refine lv_if_lt (tgt := 50) hx hb d_Py_lower_19 (by decide) (fun cw => absurd cw (nI_pos (by omega))) (fun _ => ?_)
      refine lv_aload_n hx hb d_Py_lower_22 rfl (lv_at hl 0 rfl) ?_
      refine pw_get X hS (ga) pc_Py 0 (by decide) w_fl_Py_9 rfl (v := .ref (a + 1)) rfl d_Py_lower_23 ?_
      refine lv_aload_n hx hb d_Py_lower_26 rfl (lv_at hl 0 rfl) ?_
      refine pw_get X hS (ga) pc_Py 1 (by decide) w_fl_Py_18 rfl (v := .int (nI u)) rfl d_Py_lower_27 ?_
      refine pw_ald X hS 4 rfl (gb) (vp_in_nI (by omega) (by omega)) (b := a + 2 + 2 * u) (by rw [nI_clamp (by omega)]; exact hgk u (by omega)) d_Py_lower_30 ?_
      refine pw_get X hS (gn) pc_Nu 2 (by decide) w_fl_Py_36 rfl (v := .int (sgI (P u))) rfl d_Py_lower_31 ?_
      refine lv_if_ne (tgt := 50) hx hb d_Py_lower_34 (by decide) (fun cz => ?_) (fun cz => ?_)
      · have hP : ¬ P u = 0 := fun q => cz ((sgI_0 _).mpr q)
        exact pw_vret X hS hr ⟨rfl, hz, by rw [← hT]; unfold top; rw [if_neg hP, pyO, dI_s]; exact ga, hF⟩ (show 0 ≤ 0 by omega) (show 0 ≤ 0 by omega) d_Py_lower_50
      · have hP : P u = 0 := (sgI_0 _).mp cz
        refine lv_aload_n hx hb d_Py_lower_37 rfl (lv_at hl 0 rfl) ?_
        refine lv_dup hx hb d_Py_lower_38 rfl ?_
        refine pw_get X hS (ga) pc_Py 1 (by decide) w_fl_Py_18 rfl (v := .int (nI u)) rfl d_Py_lower_39 ?_
        refine lv_iconst (v := 1) hx hb d_Py_lower_42 (by decide) ?_
        refine lv_isub hx hb d_Py_lower_43 ?_
        refine lv_topi (fun yy ey => ?_)
        obtain rfl : yy = dI u := by rw [ey]; rfl
        clear ey
        refine pw_put X hS (v := .int (dI u)) (ga) pc_Py 1 (by decide) w_fl_Py_18 rfl rfl rfl rfl (Nat.le_of_ble_eq_true rfl) d_Py_lower_44 (fun H1 lc1 hy1 hS1 => ?_)
        have hz1 := hy1.trans hz; clear hy1 hS hz
        replace hS1 : pw_S K (pw_up F (a) (.inr (2, [.ref (a + 1), .int (dI u)]))) _ _ := hS1
        refine lv_goto (tgt := 15) hx hb d_Py_lower_47 (by decide) ?_
        exact ih (by omega) _ _ _ ls hl hz1 hS1 (pw_up_self _ _ _) (fun q hq => (pw_n1 hq).trans (hF q hq)) (by rw [← hT]; show top P u = if P u = 0 then top P u else u + 1; rw [if_pos hP])
  refine lv_aload_n hx hb d_Py_lower_0 rfl (lv_at hl 0 rfl) ?_
  refine lv_iload_n hx hb d_Py_lower_1 rfl (lv_at hl 1 rfl) ?_
  refine lv_aload_n hx hb d_Py_lower_2 rfl (lv_at hl 0 rfl) ?_
  refine pw_get X hS (h0) pc_Py 0 (by decide) w_fl_Py_9 rfl (v := .ref (a + 1)) rfl d_Py_lower_3 ?_
  refine pw_len X hS 4 rfl (hg) (v := nI n) rfl d_Py_lower_6 ?_
  refine lv_iconst (v := 1) hx hb d_Py_lower_7 (by decide) ?_
  refine lv_isub hx hb d_Py_lower_8 ?_
  refine pw_mmin X hl.1 w_ml_Py_22 d_Py_lower_9 ⟨Nat.le_of_ble_eq_true rfl, Nat.le_of_ble_eq_true rfl⟩ ⟨show 0 ≤ 0 by omega, show 0 ≤ 0 by omega⟩ ?_
  refine lv_topi (fun yy ey => ?_)
  obtain rfl : yy = dI t := by rw [ey]; exact dI_min ht hn
  clear ey
  refine pw_put X hS (v := .int (dI t)) (h0) pc_Py 1 (by decide) w_fl_Py_18 rfl rfl rfl rfl (Nat.le_of_ble_eq_true rfl) d_Py_lower_12 (fun H1 lc1 hy1 hS1 => ?_)
  have hz1 := hy1.trans hz; clear hy1 hS hz
  replace hS1 : pw_S K (pw_up f (a) (.inr (2, [.ref (a + 1), .int (dI t)]))) _ _ := hS1
  exact loop t ht _ _ _ ls hl hz1 hS1 (pw_up_self _ _ _) (fun q hq => pw_n1 hq) rfl
