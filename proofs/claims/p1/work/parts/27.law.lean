/-! THE LAW: loop and start -/
/-- every call that may come -/
def stAll (l : Launch) (K : pw_K) (xa ma oa : Nat) (f : pw_F) (J : pw_F → Prop) : Prop := (∀ (p0 : Int32) (p1 : Int32) (p2 : Int32), st_put l K xa ma oa p0 p1 p2 f J) ∧ (∀ (p0 : Int32), st_degree l K xa ma oa p0 f J) ∧ (∀ (p0 : Int32), st_roots l K xa ma oa p0 f J) ∧ (∀ (p0 : Int32), st_repeated l K xa ma oa p0 f J) ∧ (∀ (p0 : Int32) (q1 : Int64) (p2 : Int32), st_sign l K xa ma oa p0 q1 p2 f J) ∧ (∀ (p0 : Int32) (q1 : Int64) (p2 : Int32) (q3 : Int64) (p4 : Int32), st_between l K xa ma oa p0 q1 p2 q3 p4 f J) ∧ (∀ (p0 : Int32) (p1 : Int32), st_multiple l K xa ma oa p0 p1 f J) ∧ (∀ (p0 : Int32) (p1 : Int32) (q2 : Int64) (p3 : Int32), st_side l K xa ma oa p0 p1 q2 p3 f J) ∧ (∀ (p0 : Int32) (p1 : Int32) (p2 : Int32) (p3 : Int32), (p2 = 0 ∨ p2 = 1) → st_floor l K xa ma oa p0 p1 p2 p3 f J) ∧ (∀ (p0 : Int32), st_apart l K xa ma oa p0 f J) ∧ (∀ (p0 : Int32) (p1 : Int32), st_order l K xa ma oa p0 p1 f J) ∧ (∀ (p0 : Int32) (p1 : Int32), st_signAt l K xa ma oa p0 p1 f J) ∧ (st_common l K xa ma oa  f J) ∧ (∀ (p0 : Int32), st_out l K xa ma oa p0 f J)
theorem d_La_law_40 : decode code 40 = .ok (.tableswitch 1175 0 13 #[72, 132, 188, 244, 300, 412, 584, 652, 776, 884, 940, 1008, 1076, 1120], 72) := by decide +kernel
theorem and15 (x : Int32) : ∃ t : Nat, t < 16 ∧ x &&& 15 = nI t := by
  refine ⟨(x &&& 15).toBitVec.toNat, ?_, ?_⟩
  · rw [Int32.toBitVec_and, BitVec.toNat_and]
    exact Nat.lt_of_le_of_lt Nat.and_le_right (by decide)
  · apply Int32.toBitVec_inj.mp
    apply BitVec.eq_of_toNat_eq
    rw [pk_tn (x &&& 15).toBitVec.isLt]
theorem len8 {n Ln : Nat} (h : Ln < 2 ^ 31) (hn : 8 * n < 2 ^ 31) : nI Ln - 8 < nI (8 * n) ↔ Ln < 8 * n + 8 := by
  rw [Int32.lt_iff_toInt_lt, nI_toInt hn]
  have h1 : (nI Ln - 8).toInt = (Ln : Int) - 8 := by
    rw [Int32.toInt_sub, nI_toInt h, show (8 : Int32).toInt = 8 from rfl]
    exact Int.bmod_eq_of_le (by omega) (by omega)
  rw [h1]
  omega
set_option maxHeartbeats 4000000 in
set_option maxRecDepth 100000 in
theorem la_loop {p : Program} {e : Env} {R : Room} {s : State} {m : MethodId} {args : Array Value} {below : List Frame} {meth : Method} {c : Code} {Q : State → Prop} (l : Launch) (K : pw_K) (xa ma oa : Nat) {b Ln : Nat} {xs : Nat → Int32} (X : pw_X p s m args meth c K R_La code 8) (hKs : pZ K = s) (hXs : va_X b Ln xs s s.heap) (hbl : b < s.heap.size) (hL : Ln < 2 ^ 31) (hR : 1100 ≤ R.frames ∧ 70000 ≤ R.locals) (C0 S0 : Nat) (Inv : Nat → pw_F → Prop) (hcap : ∀ n, 8 * n + 8 ≤ Ln → C0 + 1000 * n + 1000 ≤ R.cells ∧ S0 + 12000 * n + 12000 ≤ R.slots) (hstep : ∀ n f, 8 * n + 8 ≤ Ln → Inv n f → stAll l K xa ma oa f (Inv (n + 1)) ∧ Inv (n + 1) f) (hend : ∀ (n : Nat) (f : pw_F) (H : Heap) (lc : List Loc) (ls : Array Slot), 8 * n ≤ Ln → pw_S K f H lc → W p l e R s m args below meth c H lc (C0 + 1000 * n) (S0 + 12000 * n) Q (F0 m 1221 ls [])) : ∀ (d n : Nat), Ln / 8 = n + d → ∀ (f : pw_F) (H0 : Heap) (lc0 : List Loc) (ls : Array Slot), lv_has ls 8 [(0, .ref b), (1, .ref xa), (2, .ref ma), (3, .ref oa), (4, .int (nI (8 * n)))] → pw_S K f H0 lc0 → Inv n f → bas K xa ma oa f → W p l e R s m args below meth c H0 lc0 (C0 + 1000 * n) (S0 + 12000 * n) Q (F0 m 23 ls []) := by
  have hx := X.1
  have hb := X.2.1
  intro d
  induction d with
  | zero =>
    intro n hn f H0 lc0 ls hl hS hI hB
    refine lv_iload hx hb d_La_law_23 (lv_at hl 4 rfl) ?_
    refine lv_aload_n hx hb d_La_law_25 rfl (lv_at hl 0 rfl) ?_
    refine pw_slen X hKs hS hXs hbl d_La_law_26 ?_
    refine lv_bipush (v := 8) hx hb d_La_law_27 (by decide) ?_
    refine lv_isub hx hb d_La_law_29 ?_
    refine lv_icmp_gt (tgt := 1221) hx hb d_La_law_30 (by decide) (fun _ => ?_) (fun cw => absurd cw (not_not_intro ((len8 hL (by omega)).mpr (by omega))))
    exact hend n f H0 lc0 ls (by omega) hS
  | succ d ih =>
    intro n hn f H0 lc0 ls hl hS hI hB
    refine lv_iload hx hb d_La_law_23 (lv_at hl 4 rfl) ?_
    refine lv_aload_n hx hb d_La_law_25 rfl (lv_at hl 0 rfl) ?_
    refine pw_slen X hKs hS hXs hbl d_La_law_26 ?_
    refine lv_bipush (v := 8) hx hb d_La_law_27 (by decide) ?_
    refine lv_isub hx hb d_La_law_29 ?_
    refine lv_icmp_gt (tgt := 1221) hx hb d_La_law_30 (by decide) (fun cw => absurd cw (fun cq => absurd ((len8 hL (by omega)).mp cq) (by omega))) (fun _ => ?_)
    refine lv_aload_n hx hb d_La_law_33 rfl (lv_at hl 0 rfl) ?_
    refine lv_iload hx hb d_La_law_34 (lv_at hl 4 rfl) ?_
    refine pw_sld X hKs hS hXs hbl (vp_in_nI (by omega) (by omega)) d_La_law_36 ?_
    refine lv_topi (fun yy ey => ?_)
    obtain rfl : yy = xs (8 * n) := by rw [ey]; rw [nI_clamp (by omega)]
    clear ey
    refine lv_bipush (v := 15) hx hb d_La_law_37 (by decide) ?_
    refine lv_iand hx hb d_La_law_39 ?_
    obtain ⟨t, ht, et⟩ := and15 (xs (8 * n))
    refine lv_topi (fun yy ey => ?_)
    obtain rfl : yy = nI t := by rw [ey]; exact et
    clear ey
    have hn8 : 8 * n + 8 ≤ Ln := by omega
    have hst := hstep n f hn8 hI
    have nxt : ∀ (f2 : pw_F) (H2 : Heap) (lc2 : List Loc) (ls : Array Slot), lv_has ls 8 [(0, .ref b), (1, .ref xa), (2, .ref ma), (3, .ref oa), (4, .int (nI (8 * n)))] → pw_S K f2 H2 lc2 → Inv (n + 1) f2 → bas K xa ma oa f2 → W p l e R s m args below meth c H2 lc2 (C0 + 1000 * n + 1000) (S0 + 12000 * n + 12000) Q (F0 m 1215 ls []) := by
      intro f2 H2 lc2 ls hl hS2 hI2 hB2
      refine lv_iinc (v := nI (8 * (n + 1))) (lv' := [(4, .int (nI (8 * (n + 1)))), (0, .ref b), (1, .ref xa), (2, .ref ma), (3, .ref oa)]) hx hb d_La_law_1215 hl (k := 4) rfl (nI_add (8 * n) 8) (by decide) rfl (fun ls hl => ?_)
      refine lv_goto (tgt := 23) hx hb d_La_law_1218 (by decide) ?_
      refine W.cs (cells' := C0 + 1000 * (n + 1)) (slots' := S0 + 12000 * (n + 1)) (by omega) (by omega) ?_
      exact ih (n + 1) (by omega) f2 H2 lc2 ls (lv_sub hl [1, 2, 3, 4, 0] rfl) hS2 hI2 hB2
    have hc := hcap n hn8
    have h16 : t = 0 ∨ t = 1 ∨ t = 2 ∨ t = 3 ∨ t = 4 ∨ t = 5 ∨ t = 6 ∨ t = 7 ∨ t = 8 ∨ t = 9 ∨ t = 10 ∨ t = 11 ∨ t = 12 ∨ t = 13 ∨ t = 14 ∨ t = 15 := by omega
    clear ih hstep hend hcap et ht
    rcases h16 with rfl | rfl | rfl | rfl | rfl | rfl | rfl | rfl | rfl | rfl | rfl | rfl | rfl | rfl | rfl | rfl
    · refine lv_tableIn (off := 72) (tgt := 112) hx hb d_La_law_40 (by decide) (by decide) (by decide) (by decide) ?_
      exact la_put l K xa ma oa X hKs hXs hbl hL ⟨hR.1, hR.2, hc.1, hc.2⟩ n hn8 f (Inv (n + 1)) (hst.1.1 (xs (8 * n + 1)) (xs (8 * n + 2)) (xs (8 * n + 3))) nxt H0 lc0 ls hl hS
    · refine lv_tableIn (off := 132) (tgt := 172) hx hb d_La_law_40 (by decide) (by decide) (by decide) (by decide) ?_
      exact la_degree l K xa ma oa X hKs hXs hbl hL ⟨hR.1, hR.2, hc.1, hc.2⟩ n hn8 f (Inv (n + 1)) (hst.1.2.1 (xs (8 * n + 1))) nxt H0 lc0 ls hl hS
    · refine lv_tableIn (off := 188) (tgt := 228) hx hb d_La_law_40 (by decide) (by decide) (by decide) (by decide) ?_
      exact la_roots l K xa ma oa X hKs hXs hbl hL ⟨hR.1, hR.2, hc.1, hc.2⟩ n hn8 f (Inv (n + 1)) (hst.1.2.2.1 (xs (8 * n + 1))) nxt H0 lc0 ls hl hS
    · refine lv_tableIn (off := 244) (tgt := 284) hx hb d_La_law_40 (by decide) (by decide) (by decide) (by decide) ?_
      exact la_repeated l K xa ma oa X hKs hXs hbl hL ⟨hR.1, hR.2, hc.1, hc.2⟩ n hn8 f (Inv (n + 1)) (hst.1.2.2.2.1 (xs (8 * n + 1))) nxt H0 lc0 ls hl hS
    · refine lv_tableIn (off := 300) (tgt := 340) hx hb d_La_law_40 (by decide) (by decide) (by decide) (by decide) ?_
      exact la_sign l K xa ma oa X hKs hXs hbl hL ⟨hR.1, hR.2, hc.1, hc.2⟩ n hn8 f (Inv (n + 1)) (hst.1.2.2.2.2.1 (xs (8 * n + 1)) (lop (xs (8 * n + 2)) (xs (8 * n + 3))) (xs (8 * n + 4))) nxt H0 lc0 ls hl hS
    · refine lv_tableIn (off := 412) (tgt := 452) hx hb d_La_law_40 (by decide) (by decide) (by decide) (by decide) ?_
      exact la_between l K xa ma oa X hKs hXs hbl hL ⟨hR.1, hR.2, hc.1, hc.2⟩ n hn8 f (Inv (n + 1)) (hst.1.2.2.2.2.2.1 (xs (8 * n + 1)) (lop (xs (8 * n + 2)) (xs (8 * n + 3))) (xs (8 * n + 4)) (lop (xs (8 * n + 5)) (xs (8 * n + 6))) (xs (8 * n + 7))) nxt H0 lc0 ls hl hS
    · refine lv_tableIn (off := 584) (tgt := 624) hx hb d_La_law_40 (by decide) (by decide) (by decide) (by decide) ?_
      exact la_multiple l K xa ma oa X hKs hXs hbl hL ⟨hR.1, hR.2, hc.1, hc.2⟩ n hn8 f (Inv (n + 1)) (hst.1.2.2.2.2.2.2.1 (xs (8 * n + 1)) (xs (8 * n + 2))) nxt H0 lc0 ls hl hS
    · refine lv_tableIn (off := 652) (tgt := 692) hx hb d_La_law_40 (by decide) (by decide) (by decide) (by decide) ?_
      exact la_side l K xa ma oa X hKs hXs hbl hL ⟨hR.1, hR.2, hc.1, hc.2⟩ n hn8 f (Inv (n + 1)) (hst.1.2.2.2.2.2.2.2.1 (xs (8 * n + 1)) (xs (8 * n + 2)) (lop (xs (8 * n + 3)) (xs (8 * n + 4))) (xs (8 * n + 5))) nxt H0 lc0 ls hl hS
    · refine lv_tableIn (off := 776) (tgt := 816) hx hb d_La_law_40 (by decide) (by decide) (by decide) (by decide) ?_
      exact la_floor l K xa ma oa X hKs hXs hbl hL ⟨hR.1, hR.2, hc.1, hc.2⟩ n hn8 f (Inv (n + 1)) (hst.1.2.2.2.2.2.2.2.2.1 (xs (8 * n + 1)) (xs (8 * n + 2)) (if xs (8 * n + 3) = 0 then 0 else 1) (xs (8 * n + 4)) (by by_cases hf : xs (8 * n + 3) = 0 <;> simp [hf])) nxt H0 lc0 ls hl hS
    · refine lv_tableIn (off := 884) (tgt := 924) hx hb d_La_law_40 (by decide) (by decide) (by decide) (by decide) ?_
      exact la_apart l K xa ma oa X hKs hXs hbl hL ⟨hR.1, hR.2, hc.1, hc.2⟩ n hn8 f (Inv (n + 1)) (hst.1.2.2.2.2.2.2.2.2.2.1 (xs (8 * n + 1))) nxt H0 lc0 ls hl hS
    · refine lv_tableIn (off := 940) (tgt := 980) hx hb d_La_law_40 (by decide) (by decide) (by decide) (by decide) ?_
      exact la_order l K xa ma oa X hKs hXs hbl hL ⟨hR.1, hR.2, hc.1, hc.2⟩ n hn8 f (Inv (n + 1)) (hst.1.2.2.2.2.2.2.2.2.2.2.1 (xs (8 * n + 1)) (xs (8 * n + 2))) nxt H0 lc0 ls hl hS
    · refine lv_tableIn (off := 1008) (tgt := 1048) hx hb d_La_law_40 (by decide) (by decide) (by decide) (by decide) ?_
      exact la_signAt l K xa ma oa X hKs hXs hbl hL ⟨hR.1, hR.2, hc.1, hc.2⟩ n hn8 f (Inv (n + 1)) (hst.1.2.2.2.2.2.2.2.2.2.2.2.1 (xs (8 * n + 1)) (xs (8 * n + 2))) nxt H0 lc0 ls hl hS
    · refine lv_tableIn (off := 1076) (tgt := 1116) hx hb d_La_law_40 (by decide) (by decide) (by decide) (by decide) ?_
      exact la_common l K xa ma oa X hKs hXs hbl hL ⟨hR.1, hR.2, hc.1, hc.2⟩ n hn8 f (Inv (n + 1)) hst.1.2.2.2.2.2.2.2.2.2.2.2.2.1 nxt H0 lc0 ls hl hS
    · refine lv_tableIn (off := 1120) (tgt := 1160) hx hb d_La_law_40 (by decide) (by decide) (by decide) (by decide) ?_
      exact la_out l K xa ma oa X hKs hXs hbl hL ⟨hR.1, hR.2, hc.1, hc.2⟩ n hn8 f (Inv (n + 1)) (hst.1.2.2.2.2.2.2.2.2.2.2.2.2.2 (xs (8 * n + 1))) nxt H0 lc0 ls hl hS
    · refine lv_tableOut (tgt := 1215) hx hb d_La_law_40 (by decide) (by decide) ?_
      refine W.widen (k := C0 + 1000 * n + 1000) (n := S0 + 12000 * n + 12000) (by omega) (by omega) ?_
      exact nxt f H0 lc0 ls hl hS hst.2 hB
    · refine lv_tableOut (tgt := 1215) hx hb d_La_law_40 (by decide) (by decide) ?_
      refine W.widen (k := C0 + 1000 * n + 1000) (n := S0 + 12000 * n + 12000) (by omega) (by omega) ?_
      exact nxt f H0 lc0 ls hl hS hst.2 hB
theorem la_arr {s : State} {args : Array Value} {ty : FieldType} (h : (Cond.arrayClass ty).before args s = true) : ∃ cA, ArrOfT s cA ty ∧ s.vm.findClass ("[" ++ ty.toString) = some cA := by
  obtain ⟨c, k, comp, h1, h2, h3⟩ := Cond.arrayClass_spec h
  exact ⟨c, fun N z => ⟨(fun k h => by cases h), k, h2, comp, h3⟩, h1⟩
theorem la_arrO {s : State} {args : Array Value} {C : String} (h : (Cond.arrayOver (.object C)).before args s = true) : ∃ cA, ArrOfT s cA (.object C) ∧ va_RA s cA (.object C) := by
  obtain ⟨comp, c, k, h1, h2, h3, h4, h5⟩ := Cond.arrayOver_spec h
  exact ⟨c, fun N z => ⟨(fun k h => by cases h), k, h3, comp, h4⟩, k, comp, h3, h4, h1, h5⟩
set_option maxHeartbeats 4000000 in
set_option maxRecDepth 100000 in
theorem la_known {s : State} {args : Array Value} (hts : ∀ w ∈ lw_tbl, w.before args s = true) : ∃ (D : va_G) (E : Nat → ClassId), va_K D cls (pw_tys E) s := by
  have hg : ∀ w ∈ lw_G, w.before args s = true := fun w hw => hts w (List.mem_filter.mp hw).1
  obtain ⟨c0, i0, k0⟩ := u_known (ws := lw_G) hg i_Nu (hg _ w_ins_Nu)
  obtain ⟨c1, i1, k1⟩ := u_known (ws := lw_G) hg i_Pt (hg _ w_ins_Pt)
  obtain ⟨c2, i2, k2⟩ := u_known (ws := lw_G) hg i_Py (hg _ w_ins_Py)
  obtain ⟨c3, i3, k3⟩ := u_known (ws := lw_G) hg i_Di (hg _ w_ins_Di)
  obtain ⟨c4, i4, k4⟩ := u_known (ws := lw_G) hg i_Be (hg _ w_ins_Be)
  obtain ⟨c5, i5, k5⟩ := u_known (ws := lw_G) hg i_Ch (hg _ w_ins_Ch)
  obtain ⟨c6, i6, k6⟩ := u_known (ws := lw_G) hg i_Ro (hg _ w_ins_Ro)
  obtain ⟨c7, i7, k7⟩ := u_known (ws := lw_G) hg i_He (hg _ w_ins_He)
  obtain ⟨c8, i8, k8⟩ := u_known (ws := lw_G) hg i_Qu (hg _ w_ins_Qu)
  obtain ⟨c9, i9, k9⟩ := u_known (ws := lw_G) hg i_Tx (hg _ w_ins_Tx)
  obtain ⟨c10, i10, k10⟩ := u_known (ws := lw_G) hg i_D (hg _ w_ins_D)
  obtain ⟨c11, i11, k11⟩ := u_known (ws := lw_G) hg i_Mo (hg _ w_ins_Mo)
  obtain ⟨a0, p0, q0⟩ := la_arr (hg _ w_ac_int)
  obtain ⟨a1, p1, q1⟩ := la_arr (hg _ w_ac_long)
  obtain ⟨a2, p2, q2⟩ := la_arr (hg _ w_ac_boolean)
  obtain ⟨a3, p3, q3⟩ := la_arr (hg _ w_ac_byte)
  obtain ⟨a4, p4, q4⟩ := la_arrO (hts _ w_ao_Nu)
  obtain ⟨a5, p5, q5⟩ := la_arrO (hts _ w_ao_Py)
  obtain ⟨a6, p6, q6⟩ := la_arrO (hts _ w_ao_Ro)
  obtain ⟨a7, p7, q7⟩ := la_arrO (hts _ w_ao_He)
  refine ⟨(fun j => match j with | 0 => c0 | 1 => c1 | 2 => c2 | 3 => c3 | 4 => c4 | 5 => c5 | 6 => c6 | 7 => c7 | 8 => c8 | 9 => c9 | 10 => c10 | _ => c11, fun j => match j with | 0 => i0 | 1 => i1 | 2 => i2 | 3 => i3 | 4 => i4 | 5 => i5 | 6 => i6 | 7 => i7 | 8 => i8 | 9 => i9 | 10 => i10 | _ => i11), (fun j => match j with | 0 => a0 | 1 => a1 | 2 => a2 | 3 => a3 | 4 => a4 | 5 => a5 | 6 => a6 | _ => a7), ?_, ?_⟩
  · intro j q hq
    rcases j with _ | _ | _ | _ | _ | _ | _ | _ | _ | _ | _ | _ | j
    · cases hq; exact k0
    · cases hq; exact k1
    · cases hq; exact k2
    · cases hq; exact k3
    · cases hq; exact k4
    · cases hq; exact k5
    · cases hq; exact k6
    · cases hq; exact k7
    · cases hq; exact k8
    · cases hq; exact k9
    · cases hq; exact k10
    · cases hq; exact k11
    · simp at hq
  · intro j q hq
    rcases j with _ | _ | _ | _ | _ | _ | _ | _ | j
    · cases hq; exact ⟨p0, q0⟩
    · cases hq; exact ⟨p1, q1⟩
    · cases hq; exact ⟨p2, q2⟩
    · cases hq; exact ⟨p3, q3⟩
    · cases hq; exact ⟨p4, q4⟩
    · cases hq; exact ⟨p5, q5⟩
    · cases hq; exact ⟨p6, q6⟩
    · cases hq; exact ⟨p7, q7⟩
    · simp at hq
theorem zD.mv {K : pw_K} {f f' : pw_F} {a : Nat} (h : zD K f a) (e : ∀ q, a ≤ q → q < a + 617 → f' q = f q) : zD K f' a := by
  obtain ⟨h1, ⟨g, h2, h3⟩, h4, h5, h6, h7⟩ := h
  exact ⟨(e _ (by omega) (by omega)).trans h1, ⟨g, (e _ (by omega) (by omega)).trans h2, h3⟩, fun k hk => (h4 k hk).mv (fun q a1 a2 => e q (by omega) (by omega)), h5.mv (fun q a1 a2 => e q (by omega) (by omega)), h6.mv (fun q a1 a2 => e q (by omega) (by omega)), h7.mv (fun q a1 a2 => e q (by omega) (by omega))⟩
/-- how the law finds the world when its loop begins -/
def fresh (K : pw_K) (xa : Nat) (f : pw_F) : Prop := zD K f xa ∧ (∃ G : Nat → Int32, (∀ j, j < 10 → G j = -1) ∧ mo K f (xa + 617) 0 0 (fun _ => 0) (fun _ => 0) (fun _ => 0) G (fun _ => 0) (fun _ => 0) (fun _ => 0) (fun _ => 0) (fun _ => 0)) ∧ f (xa + 627) = some (.inl (pE K 1, 1, .inr (.inl (fun _ => 0))))
set_option maxHeartbeats 4000000 in
set_option maxRecDepth 100000 in
theorem la_start {p : Program} {e : Env} {R : Room} {s : State} {m : MethodId} {args : Array Value} {below : List Frame} {meth : Method} {c : Code} {Q : State → Prop} (l : Launch) (K : pw_K) {b : Nat} (X : pw_X p s m args meth c K R_La code 8) (hKs : pZ K = s) (hR : 1100 ≤ R.frames ∧ 70000 ≤ R.locals ∧ 628 ≤ R.cells ∧ 270020 ≤ R.slots) (kk : ∀ (f : pw_F) (H : Heap) (lc : List Loc) (ls : Array Slot), lv_has ls 8 [(0, .ref b), (1, .ref s.heap.size), (2, .ref (s.heap.size + 617)), (3, .ref (s.heap.size + 627)), (4, .int (nI (8 * 0)))] → pw_S K f H lc → fresh K s.heap.size f → W p l e R s m args below meth c H lc (628 + 1000 * 0) (270020 + 12000 * 0) Q (F0 m 23 ls [])) (ls : Array Slot) (hl : lv_has ls 8 [(0, .ref b)]) : W p l e R s m args below meth c s.heap [] 0 0 Q (F0 m 0 ls []) := by
  have hx := X.1
  have hb := X.2.1
  have hS : pw_S K (fun _ => none) s.heap [] := by
    subst hKs
    exact ⟨⟨⟨fun _ _ => rfl, X.2.2.2.2.2.2.1.2⟩, (fun (q : Nat) (x : va_E) (h : none = some x) => by cases h)⟩, (fun x h => absurd h List.not_mem_nil), Nat.le_refl _⟩
  generalize (fun _ => none : pw_F) = f0 at hS
  generalize hz : s.heap.size = z at kk
  generalize s.heap = H0 at hz hS ⊢
  generalize ([] : List Loc) = lc0 at hS ⊢
  refine pw_new X hS pc_D w_cl_La_8 w_ins_D w_ini_D (fs := [.null, .null, .null, .null]) (by decide) (show 0 + 1 ≤ R.cells by omega) (show 0 + 4 ≤ R.slots by omega) d_La_law_0 hz (fun H1 hz1 hS1 => ?_)
  clear hS hz
  refine W.cs (cells' := 1) (slots' := 4) rfl rfl ?_
  replace hS1 : pw_S K (pw_up f0 (z) (.inr (10, [.null, .null, .null, .null]))) _ _ := hS1
  refine lv_dup hx hb d_La_law_3 rfl ?_
  refine pw_callI X hS1 (As := []) (rest := [.ref z]) (c_D_init l K _ z (pw_up_self _ _ _)) hz1 w_cd_D_init w_ini_D w_ml_La_66 w_im_D_init rfl hd_D_init rfl hl.1 (Nat.le_of_ble_eq_true rfl) d_La_law_4 ⟨by show 6 + 1 ≤ R.frames; omega, by show 8 + (2 + 11) + 64 * 6 ≤ R.locals; omega⟩ ⟨by show 1 + 616 ≤ R.cells; omega, by show 4 + 100000 ≤ R.slots; omega⟩ (fun v f1 H2 lc2 hp hS2 => ?_)
  refine W.cs (cells' := 617) (slots' := 100004) rfl rfl ?_
  clear hS1 hz1
  obtain ⟨rfl, hz2, -, hD⟩ := hp
  replace hz2 : _ = z + 617 := hz2
  refine lv_astore_n (lv' := [(1, .ref z), (0, .ref b)]) hx hb d_La_law_7 rfl hl (by decide) rfl (fun ls hl => ?_)
  refine pw_new X hS2 pc_Mo w_cl_La_67 w_ins_Mo w_ini_Mo (fs := [.int 0, .null, .null, .null, .null, .null, .null, .null, .null, .int 0, .null]) (by decide) (show 617 + 1 ≤ R.cells by omega) (show 100004 + 11 ≤ R.slots by omega) d_La_law_8 hz2 (fun H3 hz3 hS3 => ?_)
  clear hS2 hz2
  refine W.cs (cells' := 618) (slots' := 100015) rfl rfl ?_
  replace hS3 : pw_S K (pw_up f1 (z + 617) (.inr (11, [.int 0, .null, .null, .null, .null, .null, .null, .null, .null, .int 0, .null]))) _ _ := hS3
  refine lv_dup hx hb d_La_law_11 rfl ?_
  refine pw_callI X hS3 (As := []) (rest := [.ref (z + 617)]) (c_Mo_init l K _ (z + 617) (pw_up_self _ _ _)) hz3 w_cd_Mo_init w_ini_Mo w_ml_La_69 w_im_Mo_init rfl hd_Mo_init rfl hl.1 (Nat.le_of_ble_eq_true rfl) d_La_law_12 ⟨by show 2 + 1 ≤ R.frames; omega, by show 8 + (2 + 11) + 64 * 2 ≤ R.locals; omega⟩ ⟨by show 618 + 9 ≤ R.cells; omega, by show 100015 + 170000 ≤ R.slots; omega⟩ (fun v f2 H4 lc4 hp hS4 => ?_)
  refine W.cs (cells' := 627) (slots' := 270015) rfl rfl ?_
  clear hS3 hz3
  obtain ⟨rfl, hz4, hk2, G, hG, hM⟩ := hp
  replace hz4 : _ = z + 627 := hz4
  have hD2 : zD K f2 z := hD.mv (fun q h1 h2 => (hk2 q (by omega)).trans (pw_n1 (by omega)))
  refine lv_astore_n (lv' := [(2, .ref (z + 617)), (1, .ref z), (0, .ref b)]) hx hb d_La_law_15 rfl hl (by decide) rfl (fun ls hl => ?_)
  refine lv_iconst (v := 1) hx hb d_La_law_16 (by decide) ?_
  refine pw_newa X hS4 (ty := .long) rfl w_ac_long 1 rfl rfl (N' := 1) (a0 := (1, .inr (.inl (fun _ => 0)))) (fun _ => rfl) (by decide) (by decide) (by decide) (show 627 + 1 ≤ R.cells by omega) (show 270015 + 1 ≤ R.slots by omega) d_La_law_17 hz4 (fun H5 hz5 hS5 => ?_)
  clear hS4 hz4
  refine W.cs (cells' := 628) (slots' := 270016) rfl rfl ?_
  replace hS5 : pw_S K (pw_up f2 (z + 627) (.inl (pE K 1, 1, .inr (.inl (fun _ => 0))))) _ _ := hS5
  refine lv_astore_n (lv' := [(3, .ref (z + 627)), (2, .ref (z + 617)), (1, .ref z), (0, .ref b)]) hx hb d_La_law_19 rfl hl (by decide) rfl (fun ls hl => ?_)
  refine lv_iconst (v := 0) hx hb d_La_law_20 (by decide) ?_
  refine lv_istore (lv' := [(4, .int 0), (3, .ref (z + 627)), (2, .ref (z + 617)), (1, .ref z), (0, .ref b)]) hx hb d_La_law_21 hl (by decide) rfl (fun ls hl => ?_)
  refine W.widen (k := 628 + 1000 * 0) (n := 270020 + 12000 * 0) (by show 628 ≤ _; omega) (by show 270016 ≤ _; omega) ?_
  exact kk _ _ _ ls (lv_sub hl [4, 3, 2, 1, 0] rfl) hS5 ⟨hD2.mv (fun q h1 h2 => pw_n1 (by omega)), ⟨G, hG, hM.mv (fun q h1 h2 => pw_n1 (by omega))⟩, pw_up_self _ _ _⟩
