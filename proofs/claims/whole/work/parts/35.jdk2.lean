/-! THE JDK: Arrays.fill, System.arraycopy -/
def R_Ar : String := "java/util/Arrays"
theorem w_ini_Ar : Cond.initialized R_Ar ∈ lw_G := lw_g1 21 rfl rfl
abbrev b_Ar_rangeCheck : ByteArray := prog_29_method_30_code
def y_Ar_rangeCheck : MethodName := ⟨R_Ar, "rangeCheck", "(III)V"⟩
theorem hd_Ar_rangeCheck : y_Ar_rangeCheck.cls ≠ "java/lang/invoke/MethodHandle" ∧ y_Ar_rangeCheck.cls ≠ "java/lang/invoke/VarHandle" ∧ (parseMethodDescriptor y_Ar_rangeCheck.desc).map (fun d => d.parameters.length) = some 3 := by decide +kernel
theorem w_cd_Ar_rangeCheck : Cond.code y_Ar_rangeCheck b_Ar_rangeCheck 3 none ∈ lw_G := lw_g3 65 rfl rfl
theorem w_st_Ar_rangeCheck : Cond.static y_Ar_rangeCheck ∈ lw_G := lw_g3 64 rfl rfl
theorem d_Ar_rangeCheck_0 : decode b_Ar_rangeCheck 0 = .ok (.iload_n 1, 1) := by decide +kernel
theorem d_Ar_rangeCheck_1 : decode b_Ar_rangeCheck 1 = .ok (.iload_n 2, 1) := by decide +kernel
theorem d_Ar_rangeCheck_2 : decode b_Ar_rangeCheck 2 = .ok (.if_icmp .le 44, 3) := by decide +kernel
theorem d_Ar_rangeCheck_46 : decode b_Ar_rangeCheck 46 = .ok (.iload_n 1, 1) := by decide +kernel
theorem d_Ar_rangeCheck_47 : decode b_Ar_rangeCheck 47 = .ok (.ifCond .ge 12, 3) := by decide +kernel
theorem d_Ar_rangeCheck_59 : decode b_Ar_rangeCheck 59 = .ok (.iload_n 2, 1) := by decide +kernel
theorem d_Ar_rangeCheck_60 : decode b_Ar_rangeCheck 60 = .ok (.iload_n 0, 1) := by decide +kernel
theorem d_Ar_rangeCheck_61 : decode b_Ar_rangeCheck 61 = .ok (.if_icmp .le 12, 3) := by decide +kernel
theorem d_Ar_rangeCheck_73 : decode b_Ar_rangeCheck 73 = .ok (.return_, 1) := by decide +kernel
abbrev b_Ar_fill : ByteArray := prog_29_method_104_code
def y_Ar_fill : MethodName := ⟨R_Ar, "fill", "([IIII)V"⟩
theorem hd_Ar_fill : y_Ar_fill.cls ≠ "java/lang/invoke/MethodHandle" ∧ y_Ar_fill.cls ≠ "java/lang/invoke/VarHandle" ∧ (parseMethodDescriptor y_Ar_fill.desc).map (fun d => d.parameters.length) = some 4 := by decide +kernel
theorem w_cd_Ar_fill : Cond.code y_Ar_fill b_Ar_fill 5 none ∈ lw_G := lw_g3 62 rfl rfl
theorem w_st_Ar_fill : Cond.static y_Ar_fill ∈ lw_G := lw_g3 61 rfl rfl
theorem d_Ar_fill_0 : decode b_Ar_fill 0 = .ok (.aload_n 0, 1) := by decide +kernel
theorem d_Ar_fill_1 : decode b_Ar_fill 1 = .ok (.arraylength, 1) := by decide +kernel
theorem d_Ar_fill_2 : decode b_Ar_fill 2 = .ok (.iload_n 1, 1) := by decide +kernel
theorem d_Ar_fill_3 : decode b_Ar_fill 3 = .ok (.iload_n 2, 1) := by decide +kernel
theorem d_Ar_fill_4 : decode b_Ar_fill 4 = .ok (.invokestatic 13, 3) := by decide +kernel
theorem d_Ar_fill_7 : decode b_Ar_fill 7 = .ok (.iload_n 1, 1) := by decide +kernel
theorem d_Ar_fill_8 : decode b_Ar_fill 8 = .ok (.istore 4, 2) := by decide +kernel
theorem d_Ar_fill_10 : decode b_Ar_fill 10 = .ok (.iload 4, 2) := by decide +kernel
theorem d_Ar_fill_12 : decode b_Ar_fill 12 = .ok (.iload_n 2, 1) := by decide +kernel
theorem d_Ar_fill_13 : decode b_Ar_fill 13 = .ok (.if_icmp .ge 14, 3) := by decide +kernel
theorem d_Ar_fill_16 : decode b_Ar_fill 16 = .ok (.aload_n 0, 1) := by decide +kernel
theorem d_Ar_fill_17 : decode b_Ar_fill 17 = .ok (.iload 4, 2) := by decide +kernel
theorem d_Ar_fill_19 : decode b_Ar_fill 19 = .ok (.iload_n 3, 1) := by decide +kernel
theorem d_Ar_fill_20 : decode b_Ar_fill 20 = .ok (.iastore, 1) := by decide +kernel
theorem d_Ar_fill_21 : decode b_Ar_fill 21 = .ok (.iinc 4 1, 3) := by decide +kernel
theorem d_Ar_fill_24 : decode b_Ar_fill 24 = .ok (.goto (-14), 3) := by decide +kernel
theorem d_Ar_fill_27 : decode b_Ar_fill 27 = .ok (.return_, 1) := by decide +kernel
theorem w_ml_Ar_13 : Cond.methodLink R_Ar 13 y_Ar_rangeCheck ∈ lw_G := lw_g3 63 rfl rfl
theorem w_ini_Sy : Cond.initialized "java/lang/System" ∈ lw_G := lw_g1 20 rfl rfl
theorem w_st_acp : Cond.static arraycopyName ∈ lw_G := lw_g3 22 rfl rfl
theorem w_nt_acp : Cond.native arraycopyName ∈ lw_G := lw_g3 23 rfl rfl
set_option maxHeartbeats 4000000 in
set_option maxRecDepth 100000 in
theorem c_Ar_rangeCheck (l : Launch) (K : pw_K) (L : q_L) (σ : q_S) {n i j : Int} (h0 : 0 ≤ i) (h1 : i ≤ j) (h2 : j ≤ n) (h3 : n < 2147483648) : q_C l K L y_Ar_rangeCheck b_Ar_rangeCheck 3 none 0 [vi n, vi i, vi j] σ (fun v σ' => v = none ∧ σ' = σ) := by
  refine q_start [some (vi n), some (vi i), some (vi j)] (by decide) (Nat.le_of_ble_eq_true rfl) (fun q h => h) ?_
  refine q_iload_n d_Ar_rangeCheck_0 rfl ?_
  refine q_iload_n d_Ar_rangeCheck_1 rfl ?_
  refine q_icmp_le (tgt := 46) (by omega) (by omega) d_Ar_rangeCheck_2 (by decide) (fun c2 => ?_) (fun c2 => absurd c2 (by omega))
  refine q_iload_n d_Ar_rangeCheck_46 rfl ?_
  refine q_if_ge (tgt := 59) (by omega) d_Ar_rangeCheck_47 (by decide) (fun c47 => ?_) (fun c47 => absurd c47 (by omega))
  refine q_iload_n d_Ar_rangeCheck_59 rfl ?_
  refine q_iload_n d_Ar_rangeCheck_60 rfl ?_
  refine q_icmp_le (tgt := 73) (by omega) (by omega) d_Ar_rangeCheck_61 (by decide) (fun c61 => ?_) (fun c61 => absurd c61 (by omega))
  exact q_vret rfl (⟨rfl, rfl⟩) d_Ar_rangeCheck_73
def q_fill (σ : q_S) (a i j : Nat) (z : Int) : q_S := fun q k => if q = a ∧ i ≤ k ∧ k < j then z else σ q k
theorem q_fill_0 (σ : q_S) (a i : Nat) (z : Int) : q_fill σ a i i z = σ := by
  funext q k
  exact if_neg (by omega)
theorem q_fill_s (σ : q_S) {a i j : Nat} (z : Int) (h : i ≤ j) : q_up (q_fill σ a i j z) a j z = q_fill σ a i (j + 1) z := by
  funext q k
  unfold q_up q_fill
  by_cases h1 : q = a ∧ j = k
  · rw [if_pos ⟨h1.1, h1.2.symm⟩, if_pos (by omega)]
  · rw [if_neg (by omega)]
    by_cases h2 : q = a ∧ i ≤ k ∧ k < j
    · rw [if_pos h2, if_pos (by omega)]
    · rw [if_neg h2, if_neg (by omega)]
theorem q_fill_a (σ : q_S) {a i j q : Nat} (z : Int) (h : q ≠ a) : q_fill σ a i j z q = σ q := funext fun k => if_neg (fun c => h c.1)
theorem q_fill_in (σ : q_S) {a i j k : Nat} (z : Int) (h : i ≤ k ∧ k < j) : q_fill σ a i j z a k = z := if_pos ⟨rfl, h⟩
theorem q_fill_out (σ : q_S) {a i j k : Nat} (z : Int) (h : ¬ (i ≤ k ∧ k < j)) : q_fill σ a i j z a k = σ a k := if_neg (fun c => h c.2)
set_option maxHeartbeats 4000000 in
set_option maxRecDepth 100000 in
theorem c_Ar_fill (l : Launch) (K : pw_K) {L : q_L} (σ : q_S) {a n i j : Nat} (z : Int) (hL : L a = some (.inr (0, n, none))) (hn : n < 2147483648) (hij : i ≤ j) (hj : j ≤ n) : q_C l K L y_Ar_fill b_Ar_fill 5 none 1 [.ref a, vi i, vi j, vi z] σ (fun v σ' => v = none ∧ σ' = q_fill σ a i j z) := by
  refine q_start [some (.ref a), some (vi i), some (vi j), some (vi z), none] (by decide) (Nat.le_of_ble_eq_true rfl) (fun q h => h) ?_
  have loop : ∀ (d k : Nat), k + d = j → i ≤ k → ∀ t : Int, t = k → q_T l K L R_Ar b_Ar_fill 5 none 1 (fun v σ' => v = none ∧ σ' = q_fill σ a i j z) 10 [some (.ref a), some (vi i), some (vi j), some (vi z), some (vi t)] [] (q_fill σ a i k z) := by
    intro d
    induction d with
    | zero =>
      intro k hk hik t ht
      refine q_iload d_Ar_fill_10 rfl ?_
      refine q_iload_n d_Ar_fill_12 rfl ?_
      refine q_icmp_ge (tgt := 27) (by omega) (by omega) d_Ar_fill_13 (by decide) (fun c13 => ?_) (fun c13 => absurd c13 (by omega))
      exact q_vret rfl (⟨rfl, by rw [show k = j by omega]⟩) d_Ar_fill_27
    | succ d ih =>
      intro k hk hik t ht
      refine q_iload d_Ar_fill_10 rfl ?_
      refine q_iload_n d_Ar_fill_12 rfl ?_
      refine q_icmp_ge (tgt := 27) (by omega) (by omega) d_Ar_fill_13 (by decide) (fun c13 => absurd c13 (by omega)) (fun c13 => ?_)
      refine q_aload_n d_Ar_fill_16 rfl ?_
      refine q_iload d_Ar_fill_17 rfl ?_
      refine q_iload_n d_Ar_fill_19 rfl ?_
      refine q_ias (k) (by assumption) (by omega) (by omega) (by omega) d_Ar_fill_20 ?_
      refine q_sto (q_fill_s σ z (by omega)) ?_
      refine q_iinc_4 d_Ar_fill_21 (by decide) rfl ?_
      refine q_goto (tgt := 10) d_Ar_fill_24 (by decide) ?_
      exact ih (k + 1) (by omega) (by omega) _ (by omega)
  refine q_aload_n d_Ar_fill_0 rfl ?_
  refine q_len 0 rfl (by assumption) d_Ar_fill_1 ?_
  refine q_iload_n d_Ar_fill_2 rfl ?_
  refine q_iload_n d_Ar_fill_3 rfl ?_
  refine q_callS (As := [vi n, vi i, vi j]) (c_Ar_rangeCheck l K L σ (by omega) (by omega) (by omega) (by omega)) w_cd_Ar_rangeCheck w_ini_Ar w_ml_Ar_13 w_st_Ar_rangeCheck hd_Ar_rangeCheck rfl (Nat.le_of_ble_eq_true rfl) d_Ar_fill_4 (by decide) (by decide) (fun v σ' hp => ?_)
  obtain ⟨rfl, rfl⟩ := hp
  refine q_iload_n d_Ar_fill_7 rfl ?_
  refine q_ist_4 d_Ar_fill_8 (by decide) rfl ?_
  refine q_sto (q_fill_0 _ a i z).symm ?_
  exact loop (j - i) i (by omega) (Nat.le_refl i) _ rfl
section QCP
variable {p : Program} {l : Launch} {e : Env} {R : Room} {s : State} {m : MethodId} {args : Array Value} {below : List Frame} {meth : Method} {c : Code} {H : Heap} {locs : List Loc} {cells slots : Nat} {Q : State → Prop}
variable {cc : ByteArray} {pc nL : Nat} {ls : Array Slot} {rest : List Value} {K : pw_K} {f : pw_F} {own : String}
theorem pw_nn {z : Int32} (hz : ¬ z < 0) : z.toInt = (z.toNatClampNeg : Int) := by
  have hz0 : (0 : Int) ≤ z.toInt := by
    have := Int32.not_lt.mp hz
    simpa using Int32.le_iff_toInt_le.mp this
  show z.toInt = ((z.toInt.toNat : Nat) : Int)
  omega
theorem pw_copy (X : pw_X p s m args meth c K own cc nL) (hS : pw_S K f H locs) (hls : ls.size = nL) {index : Nat} (hml : Cond.methodLink own index arraycopyName ∈ lw_G) {a0 a n0 n1 : Nat} {g0 g1 : Nat → Int32} (ha0 : f a0 = some (.inl (pE K 0, n0, .inl g0))) (ha1 : f a = some (.inl (pE K 0, n1, .inl g1))) {sp dp n : Int32} (h1 : ¬ sp < 0) (h2 : ¬ dp < 0) (h3 : ¬ n < 0) (h4 : sp.toNatClampNeg + n.toNatClampNeg ≤ n0) (h5 : dp.toNatClampNeg + n.toNatClampNeg ≤ n1)
    (hframes : 1 ≤ R.frames) (hlocals : (rest.map fun v => v.category).sum + (nativeFrameWords "java/lang/System" "arraycopy" 5 + 11) ≤ R.locals) (hdg : decode cc pc = .ok (.invokestatic index, 3))
    (kk : ∀ (H1 : Heap) (locs1 : List Loc), H1.size = H.size → pw_S K (pw_up f a (.inl (pE K 0, n1, .inl (va_cpy g0 g1 sp.toNatClampNeg dp.toNatClampNeg n.toNatClampNeg)))) H1 locs1 → W p l e R s m args below meth c H1 locs1 cells slots Q (F0 m (pc + 3) ls rest)) : W p l e R s m args below meth c H locs cells slots Q (F0 m pc ls (.int n :: .int dp :: .ref a :: .int sp :: .ref a0 :: rest)) := by
  obtain ⟨hx, hb, hmx, hown, hts, hK, -, -, -⟩ := X
  intro T hT X
  have hc0 : H[a0]? = some (vp_cell (pE K 0) (n0, .inl g0)) := (hS.1.2 a0 _ ha0).2
  obtain ⟨hlo, hc1⟩ := hS.1.2 a _ ha1
  have hc1 : H[a]? = some (vp_cell (pE K 0) (n1, .inl g1)) := hc1
  obtain ⟨-, k0, hk0, cm0, hkk0⟩ := (hK.2 0 _ rfl).1 n0 (fun j => .int (g0 j))
  obtain ⟨-, k1, hk1, cm1, hkk1⟩ := (hK.2 0 _ rfl).1 n1 (fun j => .int (g1 j))
  obtain ⟨vm', X', step⟩ := X.arraycopy hx hown (hts _ hml) (hts _ w_nt_acp) (hts _ w_st_acp) (hts _ w_ini_Sy) (src := a0) (dst := a) (cs := vp_cell (pE K 0) (n0, .inl g0)) (cd := vp_cell (pE K 0) (n1, .inl g1)) (srcPos := sp) (destPos := dp) (n := n) (by rw [hT]; exact hc0) (by rw [hT]; exact hc1)
    (fun _ h => by cases h) (fun _ h => by cases h) (fun h => by cases h) (fun h => by cases h) hk0 hk1 hkk0 hkk1 (by simp [refKind]) h1 h2 h3
    (by rw [pw_nn h1, pw_nn h3]; show ¬ _ > ((arrV (pE K 0) n0 (fun j => .int (g0 j))).slots.size : Int); rw [arrV_size]; omega)
    (by rw [pw_nn h2, pw_nn h3]; show ¬ _ > ((arrV (pE K 0) n1 (fun j => .int (g1 j))).slots.size : Int); rw [arrV_size]; omega)
    (fun vm₁ _ i hi => by
      have e : (vp_cell (pE K 0) (n0, .inl g0)).slots.getD (sp.toNatClampNeg + i) .null = .int (g0 (sp.toNatClampNeg + i)) := by
        show (arrV (pE K 0) n0 (fun j => .int (g0 j))).slots.getD _ _ = _
        rw [Array.getD_eq_getD_getElem?, arrV_read _ _ (by omega)]
        rfl
      refine ⟨?_, ?_⟩
      · rw [e]; rfl
      · rw [e]; exact trivial)
    (g := F0 m pc ls (.int n :: .int dp :: .ref a :: .int sp :: .ref a0 :: rest)) rfl (by rw [hmx]; exact hls) (rest := rest) rfl (by rw [hb]; exact hdg) hframes (by show 2 * 0 + _ + _ ≤ _; omega)
  have e1 : copied (vp_cell (pE K 0) (n0, .inl g0)) (vp_cell (pE K 0) (n1, .inl g1)) sp dp n = vp_cell (pE K 0) (n1, .inl (va_cpy g0 g1 sp.toNatClampNeg dp.toNatClampNeg n.toNatClampNeg)) := va_copied (fun z => .int z) (pE K 0) (pE K 0) g0 g1 h4
  rw [e1] at X' step
  have hlt : a < H.size := (Array.getElem?_eq_some_iff.mp hc1).1
  have hheap : ((T.setVm vm').setCell a (vp_cell (pE K 0) (n1, .inl (va_cpy g0 g1 sp.toNatClampNeg dp.toNatClampNeg n.toNatClampNeg)))).heap = H.setIfInBounds a (vp_cell (pE K 0) (n1, .inl (va_cpy g0 g1 sp.toNatClampNeg dp.toNatClampNeg n.toNatClampNeg))) := by rw [← hT]; rfl
  have oq : ∀ q : Nat, q ≠ a → (H.setIfInBounds a (vp_cell (pE K 0) (n1, .inl (va_cpy g0 g1 sp.toNatClampNeg dp.toNatClampNeg n.toNatClampNeg))))[q]? = H[q]? := fun q hq => by simp [Array.getElem?_setIfInBounds, Ne.symm hq]
  obtain ⟨t, a1, b1⟩ := kk _ _ (by simp) ⟨hS.1.set ha1 (show (H.setIfInBounds a _)[a]? = some _ by simp [Array.getElem?_setIfInBounds, hlt]) oq, fun q hq => by
      rcases List.mem_append.mp hq with h | h
      · exact hS.2.1 q h
      · obtain ⟨z, -, hz⟩ := List.mem_map.mp h
        rw [← hz]
        exact hlo, by simp; exact hS.2.2⟩ _ hheap X'
  exact ⟨t, step t a1, b1⟩
end QCP
def q_cp (σ : q_S) (a0 a m : Nat) : q_S := fun q k => if q = a ∧ k < m then σ a0 k else σ q k
theorem q_cp_a (σ : q_S) {a0 a m q : Nat} (h : q ≠ a) : q_cp σ a0 a m q = σ q := funext fun k => if_neg (fun c => h c.1)
theorem q_cp_in (σ : q_S) {a0 a m k : Nat} (h : k < m) : q_cp σ a0 a m a k = σ a0 k := if_pos ⟨rfl, h⟩
theorem q_cp_out (σ : q_S) {a0 a m k : Nat} (h : ¬ k < m) : q_cp σ a0 a m a k = σ a k := if_neg (fun c => h c.2)
theorem q_copy {l : Launch} {K : pw_K} {L : q_L} {own : String} {cc : ByteArray} {nL : Nat} {ret : Option FieldType} {d : Nat} {post : Option Value → q_S → Prop} {pc : Nat} {lv : List (Option Value)} {st : List Value} {σ : q_S} (m : Nat) {a0 a n0 n1 index : Nat} {i : Int} (hL0 : L a0 = some (.inr (0, n0, none))) (hL1 : L a = some (.inr (0, n1, none))) (hi : i = (m : Int)) (h0 : m ≤ n0) (h1 : m ≤ n1) (hn : n0 < 2147483648) (hml : Cond.methodLink own index arraycopyName ∈ lw_G) (hdg : decode cc pc = .ok (.invokestatic index, 3)) (hd : 1 ≤ d) (hlo : (st.map fun v => v.category).sum + (nativeFrameWords "java/lang/System" "arraycopy" 5 + 11) ≤ 64 * d) (kk : q_T l K L own cc nL ret d post (pc + 3) lv st (q_cp σ a0 a m)) : q_T l K L own cc nL ret d post pc lv (vi i :: vi 0 :: .ref a :: vi 0 :: .ref a0 :: st) σ := by
  intro p e s mm args below meth c H locs ls f f0 sz X hr hz hS ha hf hl
  subst hi
  have e0 : (Int32.ofInt 0).toNatClampNeg = 0 := by decide
  have em : (Int32.ofInt (m : Int)).toNatClampNeg = m := nI_clamp (by omega)
  refine pw_copy X hS hl.1 hml (ha a0 _ hL0) (ha a _ hL1) (sp := Int32.ofInt 0) (dp := Int32.ofInt 0) (n := Int32.ofInt (m : Int)) (by decide) (by decide) (fun h => ?_) (by rw [e0, em]; omega) (by rw [e0, em]; omega) hd hlo hdg (fun H1 lc1 hy hS1 => ?_)
  · have := (q_lt (y := 0) (x := (m : Int)) (by omega) ⟨by decide, by decide⟩).mp h
    omega
  rw [e0, em] at hS1
  refine kk _ _ _ _ _ _ _ _ _ _ _ _ _ _ X hr (hy.trans hz) hS1 ?_ (fun q hq => (pw_up_ne (q_L_ne hL1 hq)).trans (hf q hq)) hl
  intro q c hq
  by_cases eq : q = a
  · subst eq
    cases hq.symm.trans hL1
    rw [pw_up_self]
    simp only [q_e]
    have e2 : va_cpy (fun j => Int32.ofInt (σ a0 j)) (fun j => Int32.ofInt (σ q j)) 0 0 m = fun j => Int32.ofInt (q_cp σ a0 q m q j) := by
      funext j
      unfold va_cpy q_cp
      by_cases hj : j < m
      · simp [hj]
      · simp [hj]
    rw [e2]
  · rw [pw_up_ne eq, ha q c hq]
    rcases c with ⟨ci, fs⟩ | ⟨t, n, g⟩
    · simp only [q_e, q_cp_a σ eq]
    · cases g <;> simp only [q_e, q_cp_a σ eq]
