/-! THE LAW'S WRAPPERS -/
theorem tb_of : ∀ {L : List ExceptionTableEntry} {qs : List (Nat × Nat × Nat × Nat)}, L.map (fun h => (h.startPc, h.endPc, h.handlerPc, h.catchType)) = qs → L = qs.map (fun q => ⟨q.1, q.2.1, q.2.2.1, q.2.2.2⟩)
  | [], _, h => by subst h; rfl
  | y :: L, _, h => by
    subst h
    have := tb_of (L := L) rfl
    rw [List.map_cons, List.map_cons, ← this]
def caW (E : String) : Prop := ∀ K : pw_K, pw_Z K → (Cond.castable E E).before (pA K) (pZ K) = true ∧ (Cond.instantiable E 6).before (pA K) (pZ K) = true
theorem ca_IAE : caW sIAE := fun K hZ => ⟨hZ.1 _ (by decide +kernel), hZ.1 _ (by decide +kernel)⟩
theorem ca_ISE : caW sISE := fun K hZ => ⟨hZ.1 _ (by decide +kernel), hZ.1 _ (by decide +kernel)⟩
theorem ca_NSE : caW sNSE := fun K hZ => ⟨hZ.1 _ (by decide +kernel), hZ.1 _ (by decide +kernel)⟩
theorem nc_ISE_IAE (K : pw_K) (hZ : pw_Z K) : (Cond.not (.castable sISE sIAE)).before (pA K) (pZ K) = true := flat_of_before _ hZ.2.2 _ (by decide +kernel)
theorem nc_NSE_IAE (K : pw_K) (hZ : pw_Z K) : (Cond.not (.castable sNSE sIAE)).before (pA K) (pZ K) = true := flat_of_before _ hZ.2.2 _ (by decide +kernel)
theorem nc_NSE_ISE (K : pw_K) (hZ : pw_Z K) : (Cond.not (.castable sNSE sISE)).before (pA K) (pZ K) = true := flat_of_before _ hZ.2.2 _ (by decide +kernel)
theorem d_La_put_0 : decode b_La_put 0 = .ok (.aload_n 0, 1) := by decide +kernel
theorem d_La_put_1 : decode b_La_put 1 = .ok (.iload_n 1, 1) := by decide +kernel
theorem d_La_put_2 : decode b_La_put 2 = .ok (.iload_n 2, 1) := by decide +kernel
theorem d_La_put_3 : decode b_La_put 3 = .ok (.iload_n 3, 1) := by decide +kernel
theorem d_La_put_4 : decode b_La_put 4 = .ok (.invokevirtual 7, 3) := by decide +kernel
theorem d_La_put_7 : decode b_La_put 7 = .ok (.goto 7, 3) := by decide +kernel
theorem d_La_put_10 : decode b_La_put 10 = .ok (.astore 4, 2) := by decide +kernel
theorem d_La_put_12 : decode b_La_put 12 = .ok (.iconst 1, 1) := by decide +kernel
theorem d_La_put_13 : decode b_La_put 13 = .ok (.ireturn, 1) := by decide +kernel
theorem d_La_put_14 : decode b_La_put 14 = .ok (.iconst 0, 1) := by decide +kernel
theorem d_La_put_15 : decode b_La_put 15 = .ok (.ireturn, 1) := by decide +kernel
set_option maxHeartbeats 4000000 in
set_option maxRecDepth 100000 in
theorem v_La_put_IAE (l : Launch) (K : pw_K) (f : pw_F) (xa sz d mc ms : Nat) (p0 : Int32) (p1 : Int32) (p2 : Int32) {fs : List Value} (hx0 : f xa = some (.inr (10, fs))) {post : pw_F → Prop} (hM : pw_T l K y_D_put b_D_put 4 none (rmk d mc ms) f [.ref xa, .int p0, .int p1, .int p2] sz sIAE post) : pw_W l K y_La_put b_La_put 5 (some .int) [(0, 7, 10, 13)] (rmk (d + 1) mc ms) f [.ref xa, .int p0, .int p1, .int p2] sz (fun v f2 z => v = some (.int 1) ∧ post f2) := by
  refine pw_startW (by decide) (Nat.le_of_ble_eq_true rfl) ?_
  intro p e s m args below meth c ls X htab hr hz hS hl
  have hl : lv_has ls 5 [(0, .ref xa), (1, .int p0), (2, .int p1), (3, .int p2)] := hl
  have htb := tb_of htab
  have hZ := X.2.2.2.2.2.2.2.1
  have hx := X.1
  have hb := X.2.1
  generalize s.heap = H0 at hz hS ⊢
  generalize ([] : List Loc) = lc0 at hS ⊢
  refine lv_aload_n hx hb d_La_put_0 rfl (lv_at hl 0 rfl) ?_
  refine lv_iload_n hx hb d_La_put_1 rfl (lv_at hl 1 rfl) ?_
  refine lv_iload_n hx hb d_La_put_2 rfl (lv_at hl 2 rfl) ?_
  refine lv_iload_n hx hb d_La_put_3 rfl (lv_at hl 3 rfl) ?_
  have hpre : ∀ z ∈ ([] : List ExceptionTableEntry), covers z 4 = true ∧ z.catchType ≠ 0 ∧ ∃ E', Cond.classLink R_La z.catchType E' ∈ lw_G ∧ (Cond.not (.castable sIAE E')).before (pA K) (pZ K) = true := (fun _ h => absurd h List.not_mem_nil)
  refine pw_callVH X hS (As := [.int p0, .int p1, .int p2]) (rest := []) hM hz w_cd_D_put w_ini_D w_ml_La_7 w_im_D_put w_se_D_put hx0 rfl hd_D_put rfl hl.1 (Nat.le_of_ble_eq_true rfl) d_La_put_4 ⟨by show d + 1 ≤ d + 1; omega, by show 8 + (4 + 11) + 64 * d ≤ 64 * (d + 1); omega⟩ ⟨show 0 + mc ≤ mc by omega, show 0 + ms ≤ ms by omega⟩ [] ⟨0, 7, 10, 13⟩ [] htb ⟨by decide, by decide, w_cl_La_13⟩ (ca_IAE K hZ).1 (ca_IAE K hZ).2 hpre (fun xe f1 H1 lc1 hp hS1 => ?_)
  refine lv_astore (lv' := [(4, .ref xe), (0, .ref xa), (1, .int p0), (2, .int p1), (3, .int p2)]) hx hb d_La_put_10 hl (by decide) rfl (fun ls hl => ?_)
  refine lv_iconst (v := 1) hx hb d_La_put_12 (by decide) ?_
  exact pw_iret X hS1 hr ⟨rfl, hp⟩ (show 0 + mc ≤ mc by omega) (show 0 + ms ≤ ms by omega) d_La_put_13
set_option maxHeartbeats 4000000 in
set_option maxRecDepth 100000 in
theorem v_La_put (l : Launch) (K : pw_K) (f : pw_F) (xa sz d mc ms : Nat) (p0 : Int32) (p1 : Int32) (p2 : Int32) {fs : List Value} (hx0 : f xa = some (.inr (10, fs))) {post : pw_F → Nat → Prop} (hM : pw_C l K y_D_put b_D_put 4 none (rmk d mc ms) f [.ref xa, .int p0, .int p1, .int p2] sz (fun v f2 z => v = none ∧ post f2 z)) : pw_W l K y_La_put b_La_put 5 (some .int) [(0, 7, 10, 13)] (rmk (d + 1) mc ms) f [.ref xa, .int p0, .int p1, .int p2] sz (fun v f2 z => v = some (.int 0) ∧ post f2 z) := by
  refine pw_startW (by decide) (Nat.le_of_ble_eq_true rfl) ?_
  intro p e s m args below meth c ls X htab hr hz hS hl
  have hl : lv_has ls 5 [(0, .ref xa), (1, .int p0), (2, .int p1), (3, .int p2)] := hl
  have htb := tb_of htab
  have hZ := X.2.2.2.2.2.2.2.1
  have hx := X.1
  have hb := X.2.1
  generalize s.heap = H0 at hz hS ⊢
  generalize ([] : List Loc) = lc0 at hS ⊢
  refine lv_aload_n hx hb d_La_put_0 rfl (lv_at hl 0 rfl) ?_
  refine lv_iload_n hx hb d_La_put_1 rfl (lv_at hl 1 rfl) ?_
  refine lv_iload_n hx hb d_La_put_2 rfl (lv_at hl 2 rfl) ?_
  refine lv_iload_n hx hb d_La_put_3 rfl (lv_at hl 3 rfl) ?_
  refine pw_callV X hS (As := [.int p0, .int p1, .int p2]) (rest := []) hM hz w_cd_D_put w_ini_D w_ml_La_7 w_im_D_put w_se_D_put hx0 rfl hd_D_put rfl hl.1 (Nat.le_of_ble_eq_true rfl) d_La_put_4 ⟨by show d + 1 ≤ d + 1; omega, by show 8 + (4 + 11) + 64 * d ≤ 64 * (d + 1); omega⟩ ⟨show 0 + mc ≤ mc by omega, show 0 + ms ≤ ms by omega⟩ (fun v f1 H1 lc1 hp hS1 => ?_)
  obtain ⟨rfl, hp⟩ := hp
  refine lv_goto (tgt := 14) hx hb d_La_put_7 (by decide) ?_
  refine lv_iconst (v := 0) hx hb d_La_put_14 (by decide) ?_
  exact pw_iret X hS1 hr ⟨rfl, hp⟩ (show 0 + mc ≤ mc by omega) (show 0 + ms ≤ ms by omega) d_La_put_15
theorem d_La_degree_0 : decode b_La_degree 0 = .ok (.aload_n 2, 1) := by decide +kernel
theorem d_La_degree_1 : decode b_La_degree 1 = .ok (.iconst 0, 1) := by decide +kernel
theorem d_La_degree_2 : decode b_La_degree 2 = .ok (.aload_n 0, 1) := by decide +kernel
theorem d_La_degree_3 : decode b_La_degree 3 = .ok (.iload_n 1, 1) := by decide +kernel
theorem d_La_degree_4 : decode b_La_degree 4 = .ok (.invokevirtual 15, 3) := by decide +kernel
theorem d_La_degree_7 : decode b_La_degree 7 = .ok (.i2l, 1) := by decide +kernel
theorem d_La_degree_8 : decode b_La_degree 8 = .ok (.lastore, 1) := by decide +kernel
theorem d_La_degree_9 : decode b_La_degree 9 = .ok (.goto 6, 3) := by decide +kernel
theorem d_La_degree_12 : decode b_La_degree 12 = .ok (.astore_n 3, 1) := by decide +kernel
theorem d_La_degree_13 : decode b_La_degree 13 = .ok (.iconst 1, 1) := by decide +kernel
theorem d_La_degree_14 : decode b_La_degree 14 = .ok (.ireturn, 1) := by decide +kernel
theorem d_La_degree_15 : decode b_La_degree 15 = .ok (.iconst 0, 1) := by decide +kernel
theorem d_La_degree_16 : decode b_La_degree 16 = .ok (.ireturn, 1) := by decide +kernel
set_option maxHeartbeats 4000000 in
set_option maxRecDepth 100000 in
theorem v_La_degree_IAE (l : Launch) (K : pw_K) (f : pw_F) (xa oa sz d mc ms : Nat) (p0 : Int32) {fs : List Value} (hx0 : f xa = some (.inr (10, fs))) {post : pw_F → Prop} (hM : pw_T l K y_D_degree b_D_degree 2 (some .int) (rmk d mc ms) f [.ref xa, .int p0] sz sIAE post) : pw_W l K y_La_degree b_La_degree 4 (some .int) [(0, 9, 12, 13)] (rmk (d + 1) mc ms) f [.ref xa, .int p0, .ref oa] sz (fun v f2 z => v = some (.int 1) ∧ post f2) := by
  refine pw_startW (by decide) (Nat.le_of_ble_eq_true rfl) ?_
  intro p e s m args below meth c ls X htab hr hz hS hl
  have hl : lv_has ls 4 [(0, .ref xa), (1, .int p0), (2, .ref oa)] := hl
  have htb := tb_of htab
  have hZ := X.2.2.2.2.2.2.2.1
  have hx := X.1
  have hb := X.2.1
  generalize s.heap = H0 at hz hS ⊢
  generalize ([] : List Loc) = lc0 at hS ⊢
  refine lv_aload_n hx hb d_La_degree_0 rfl (lv_at hl 2 rfl) ?_
  refine lv_iconst (v := 0) hx hb d_La_degree_1 (by decide) ?_
  refine lv_aload_n hx hb d_La_degree_2 rfl (lv_at hl 0 rfl) ?_
  refine lv_iload_n hx hb d_La_degree_3 rfl (lv_at hl 1 rfl) ?_
  have hpre : ∀ z ∈ ([] : List ExceptionTableEntry), covers z 4 = true ∧ z.catchType ≠ 0 ∧ ∃ E', Cond.classLink R_La z.catchType E' ∈ lw_G ∧ (Cond.not (.castable sIAE E')).before (pA K) (pZ K) = true := (fun _ h => absurd h List.not_mem_nil)
  refine pw_callVH X hS (As := [.int p0]) (rest := [.int 0, .ref oa]) hM hz w_cd_D_degree w_ini_D w_ml_La_15 w_im_D_degree w_se_D_degree hx0 rfl hd_D_degree rfl hl.1 (Nat.le_of_ble_eq_true rfl) d_La_degree_4 ⟨by show d + 1 ≤ d + 1; omega, by show 8 + (2 + 11) + 64 * d ≤ 64 * (d + 1); omega⟩ ⟨show 0 + mc ≤ mc by omega, show 0 + ms ≤ ms by omega⟩ [] ⟨0, 9, 12, 13⟩ [] htb ⟨by decide, by decide, w_cl_La_13⟩ (ca_IAE K hZ).1 (ca_IAE K hZ).2 hpre (fun xe f1 H1 lc1 hp hS1 => ?_)
  refine lv_astore_n (lv' := [(3, .ref xe), (0, .ref xa), (1, .int p0), (2, .ref oa)]) hx hb d_La_degree_12 rfl hl (by decide) rfl (fun ls hl => ?_)
  refine lv_iconst (v := 1) hx hb d_La_degree_13 (by decide) ?_
  exact pw_iret X hS1 hr ⟨rfl, hp⟩ (show 0 + mc ≤ mc by omega) (show 0 + ms ≤ ms by omega) d_La_degree_14
set_option maxHeartbeats 4000000 in
set_option maxRecDepth 100000 in
theorem v_La_degree (l : Launch) (K : pw_K) (f : pw_F) (xa oa sz d mc ms : Nat) (p0 : Int32) (r : Int32) {fs : List Value} (hx0 : f xa = some (.inr (10, fs))) {post : pw_F → Nat → Prop} (hM : pw_C l K y_D_degree b_D_degree 2 (some .int) (rmk d mc ms) f [.ref xa, .int p0] sz (fun v f2 z => v = some (.int r) ∧ post f2 z)) (ho : ∀ f2 z, post f2 z → ∃ go : Nat → Int64, f2 oa = some (.inl (pE K 1, 1, .inr (.inl go)))) : pw_W l K y_La_degree b_La_degree 4 (some .int) [(0, 9, 12, 13)] (rmk (d + 1) mc ms) f [.ref xa, .int p0, .ref oa] sz (fun v f2 z => v = some (.int 0) ∧ ∃ (f1 : pw_F) (go : Nat → Int64), post f1 z ∧ go 0 = r.toInt64 ∧ f2 = pw_up f1 oa (.inl (pE K 1, 1, .inr (.inl go)))) := by
  refine pw_startW (by decide) (Nat.le_of_ble_eq_true rfl) ?_
  intro p e s m args below meth c ls X htab hr hz hS hl
  have hl : lv_has ls 4 [(0, .ref xa), (1, .int p0), (2, .ref oa)] := hl
  have htb := tb_of htab
  have hZ := X.2.2.2.2.2.2.2.1
  have hx := X.1
  have hb := X.2.1
  generalize s.heap = H0 at hz hS ⊢
  generalize ([] : List Loc) = lc0 at hS ⊢
  refine lv_aload_n hx hb d_La_degree_0 rfl (lv_at hl 2 rfl) ?_
  refine lv_iconst (v := 0) hx hb d_La_degree_1 (by decide) ?_
  refine lv_aload_n hx hb d_La_degree_2 rfl (lv_at hl 0 rfl) ?_
  refine lv_iload_n hx hb d_La_degree_3 rfl (lv_at hl 1 rfl) ?_
  refine pw_callV X hS (As := [.int p0]) (rest := [.int 0, .ref oa]) hM hz w_cd_D_degree w_ini_D w_ml_La_15 w_im_D_degree w_se_D_degree hx0 rfl hd_D_degree rfl hl.1 (Nat.le_of_ble_eq_true rfl) d_La_degree_4 ⟨by show d + 1 ≤ d + 1; omega, by show 8 + (2 + 11) + 64 * d ≤ 64 * (d + 1); omega⟩ ⟨show 0 + mc ≤ mc by omega, show 0 + ms ≤ ms by omega⟩ (fun v f1 H1 lc1 hp hS1 => ?_)
  obtain ⟨rfl, hp⟩ := hp
  obtain ⟨go, ho1⟩ := ho _ _ hp
  refine lv_i2l hx hb d_La_degree_7 rfl ?_
  refine pw_lst X hS1 ho1 (vp_in_nI (n := 0) (by decide) (by decide)) d_La_degree_8 (fun H2 lc2 hy hS2 => ?_)
  refine lv_goto (tgt := 15) hx hb d_La_degree_9 (by decide) ?_
  refine lv_iconst (v := 0) hx hb d_La_degree_15 (by decide) ?_
  exact pw_iret X hS2 hr ⟨rfl, f1, _, by rw [hy]; exact hp, if_pos rfl, rfl⟩ (show 0 + mc ≤ mc by omega) (show 0 + ms ≤ ms by omega) d_La_degree_16
theorem d_La_roots_0 : decode b_La_roots 0 = .ok (.aload_n 2, 1) := by decide +kernel
theorem d_La_roots_1 : decode b_La_roots 1 = .ok (.iconst 0, 1) := by decide +kernel
theorem d_La_roots_2 : decode b_La_roots 2 = .ok (.aload_n 0, 1) := by decide +kernel
theorem d_La_roots_3 : decode b_La_roots 3 = .ok (.iload_n 1, 1) := by decide +kernel
theorem d_La_roots_4 : decode b_La_roots 4 = .ok (.invokevirtual 19, 3) := by decide +kernel
theorem d_La_roots_7 : decode b_La_roots 7 = .ok (.i2l, 1) := by decide +kernel
theorem d_La_roots_8 : decode b_La_roots 8 = .ok (.lastore, 1) := by decide +kernel
theorem d_La_roots_9 : decode b_La_roots 9 = .ok (.goto 9, 3) := by decide +kernel
theorem d_La_roots_12 : decode b_La_roots 12 = .ok (.astore_n 3, 1) := by decide +kernel
theorem d_La_roots_13 : decode b_La_roots 13 = .ok (.iconst 1, 1) := by decide +kernel
theorem d_La_roots_14 : decode b_La_roots 14 = .ok (.ireturn, 1) := by decide +kernel
theorem d_La_roots_15 : decode b_La_roots 15 = .ok (.astore_n 3, 1) := by decide +kernel
theorem d_La_roots_16 : decode b_La_roots 16 = .ok (.iconst 2, 1) := by decide +kernel
theorem d_La_roots_17 : decode b_La_roots 17 = .ok (.ireturn, 1) := by decide +kernel
theorem d_La_roots_18 : decode b_La_roots 18 = .ok (.iconst 0, 1) := by decide +kernel
theorem d_La_roots_19 : decode b_La_roots 19 = .ok (.ireturn, 1) := by decide +kernel
set_option maxHeartbeats 4000000 in
set_option maxRecDepth 100000 in
theorem v_La_roots_IAE (l : Launch) (K : pw_K) (f : pw_F) (xa oa sz d mc ms : Nat) (p0 : Int32) {fs : List Value} (hx0 : f xa = some (.inr (10, fs))) {post : pw_F → Prop} (hM : pw_T l K y_D_roots b_D_roots 3 (some .int) (rmk d mc ms) f [.ref xa, .int p0] sz sIAE post) : pw_W l K y_La_roots b_La_roots 4 (some .int) [(0, 9, 12, 13), (0, 9, 15, 22)] (rmk (d + 1) mc ms) f [.ref xa, .int p0, .ref oa] sz (fun v f2 z => v = some (.int 1) ∧ post f2) := by
  refine pw_startW (by decide) (Nat.le_of_ble_eq_true rfl) ?_
  intro p e s m args below meth c ls X htab hr hz hS hl
  have hl : lv_has ls 4 [(0, .ref xa), (1, .int p0), (2, .ref oa)] := hl
  have htb := tb_of htab
  have hZ := X.2.2.2.2.2.2.2.1
  have hx := X.1
  have hb := X.2.1
  generalize s.heap = H0 at hz hS ⊢
  generalize ([] : List Loc) = lc0 at hS ⊢
  refine lv_aload_n hx hb d_La_roots_0 rfl (lv_at hl 2 rfl) ?_
  refine lv_iconst (v := 0) hx hb d_La_roots_1 (by decide) ?_
  refine lv_aload_n hx hb d_La_roots_2 rfl (lv_at hl 0 rfl) ?_
  refine lv_iload_n hx hb d_La_roots_3 rfl (lv_at hl 1 rfl) ?_
  have hpre : ∀ z ∈ ([] : List ExceptionTableEntry), covers z 4 = true ∧ z.catchType ≠ 0 ∧ ∃ E', Cond.classLink R_La z.catchType E' ∈ lw_G ∧ (Cond.not (.castable sIAE E')).before (pA K) (pZ K) = true := (fun _ h => absurd h List.not_mem_nil)
  refine pw_callVH X hS (As := [.int p0]) (rest := [.int 0, .ref oa]) hM hz w_cd_D_roots w_ini_D w_ml_La_19 w_im_D_roots w_se_D_roots hx0 rfl hd_D_roots rfl hl.1 (Nat.le_of_ble_eq_true rfl) d_La_roots_4 ⟨by show d + 1 ≤ d + 1; omega, by show 8 + (3 + 11) + 64 * d ≤ 64 * (d + 1); omega⟩ ⟨show 0 + mc ≤ mc by omega, show 0 + ms ≤ ms by omega⟩ [] ⟨0, 9, 12, 13⟩ [⟨0, 9, 15, 22⟩] htb ⟨by decide, by decide, w_cl_La_13⟩ (ca_IAE K hZ).1 (ca_IAE K hZ).2 hpre (fun xe f1 H1 lc1 hp hS1 => ?_)
  refine lv_astore_n (lv' := [(3, .ref xe), (0, .ref xa), (1, .int p0), (2, .ref oa)]) hx hb d_La_roots_12 rfl hl (by decide) rfl (fun ls hl => ?_)
  refine lv_iconst (v := 1) hx hb d_La_roots_13 (by decide) ?_
  exact pw_iret X hS1 hr ⟨rfl, hp⟩ (show 0 + mc ≤ mc by omega) (show 0 + ms ≤ ms by omega) d_La_roots_14
set_option maxHeartbeats 4000000 in
set_option maxRecDepth 100000 in
theorem v_La_roots_ISE (l : Launch) (K : pw_K) (f : pw_F) (xa oa sz d mc ms : Nat) (p0 : Int32) {fs : List Value} (hx0 : f xa = some (.inr (10, fs))) {post : pw_F → Prop} (hM : pw_T l K y_D_roots b_D_roots 3 (some .int) (rmk d mc ms) f [.ref xa, .int p0] sz sISE post) : pw_W l K y_La_roots b_La_roots 4 (some .int) [(0, 9, 12, 13), (0, 9, 15, 22)] (rmk (d + 1) mc ms) f [.ref xa, .int p0, .ref oa] sz (fun v f2 z => v = some (.int 2) ∧ post f2) := by
  refine pw_startW (by decide) (Nat.le_of_ble_eq_true rfl) ?_
  intro p e s m args below meth c ls X htab hr hz hS hl
  have hl : lv_has ls 4 [(0, .ref xa), (1, .int p0), (2, .ref oa)] := hl
  have htb := tb_of htab
  have hZ := X.2.2.2.2.2.2.2.1
  have hx := X.1
  have hb := X.2.1
  generalize s.heap = H0 at hz hS ⊢
  generalize ([] : List Loc) = lc0 at hS ⊢
  refine lv_aload_n hx hb d_La_roots_0 rfl (lv_at hl 2 rfl) ?_
  refine lv_iconst (v := 0) hx hb d_La_roots_1 (by decide) ?_
  refine lv_aload_n hx hb d_La_roots_2 rfl (lv_at hl 0 rfl) ?_
  refine lv_iload_n hx hb d_La_roots_3 rfl (lv_at hl 1 rfl) ?_
  have hpre : ∀ z ∈ ([⟨0, 9, 12, 13⟩] : List ExceptionTableEntry), covers z 4 = true ∧ z.catchType ≠ 0 ∧ ∃ E', Cond.classLink R_La z.catchType E' ∈ lw_G ∧ (Cond.not (.castable sISE E')).before (pA K) (pZ K) = true := (List.forall_mem_cons.mpr ⟨⟨by decide, by decide, _, w_cl_La_13, nc_ISE_IAE K hZ⟩, (fun _ h => absurd h List.not_mem_nil)⟩)
  refine pw_callVH X hS (As := [.int p0]) (rest := [.int 0, .ref oa]) hM hz w_cd_D_roots w_ini_D w_ml_La_19 w_im_D_roots w_se_D_roots hx0 rfl hd_D_roots rfl hl.1 (Nat.le_of_ble_eq_true rfl) d_La_roots_4 ⟨by show d + 1 ≤ d + 1; omega, by show 8 + (3 + 11) + 64 * d ≤ 64 * (d + 1); omega⟩ ⟨show 0 + mc ≤ mc by omega, show 0 + ms ≤ ms by omega⟩ [⟨0, 9, 12, 13⟩] ⟨0, 9, 15, 22⟩ [] htb ⟨by decide, by decide, w_cl_La_22⟩ (ca_ISE K hZ).1 (ca_ISE K hZ).2 hpre (fun xe f1 H1 lc1 hp hS1 => ?_)
  refine lv_astore_n (lv' := [(3, .ref xe), (0, .ref xa), (1, .int p0), (2, .ref oa)]) hx hb d_La_roots_15 rfl hl (by decide) rfl (fun ls hl => ?_)
  refine lv_iconst (v := 2) hx hb d_La_roots_16 (by decide) ?_
  exact pw_iret X hS1 hr ⟨rfl, hp⟩ (show 0 + mc ≤ mc by omega) (show 0 + ms ≤ ms by omega) d_La_roots_17
set_option maxHeartbeats 4000000 in
set_option maxRecDepth 100000 in
theorem v_La_roots (l : Launch) (K : pw_K) (f : pw_F) (xa oa sz d mc ms : Nat) (p0 : Int32) (r : Int32) {fs : List Value} (hx0 : f xa = some (.inr (10, fs))) {post : pw_F → Nat → Prop} (hM : pw_C l K y_D_roots b_D_roots 3 (some .int) (rmk d mc ms) f [.ref xa, .int p0] sz (fun v f2 z => v = some (.int r) ∧ post f2 z)) (ho : ∀ f2 z, post f2 z → ∃ go : Nat → Int64, f2 oa = some (.inl (pE K 1, 1, .inr (.inl go)))) : pw_W l K y_La_roots b_La_roots 4 (some .int) [(0, 9, 12, 13), (0, 9, 15, 22)] (rmk (d + 1) mc ms) f [.ref xa, .int p0, .ref oa] sz (fun v f2 z => v = some (.int 0) ∧ ∃ (f1 : pw_F) (go : Nat → Int64), post f1 z ∧ go 0 = r.toInt64 ∧ f2 = pw_up f1 oa (.inl (pE K 1, 1, .inr (.inl go)))) := by
  refine pw_startW (by decide) (Nat.le_of_ble_eq_true rfl) ?_
  intro p e s m args below meth c ls X htab hr hz hS hl
  have hl : lv_has ls 4 [(0, .ref xa), (1, .int p0), (2, .ref oa)] := hl
  have htb := tb_of htab
  have hZ := X.2.2.2.2.2.2.2.1
  have hx := X.1
  have hb := X.2.1
  generalize s.heap = H0 at hz hS ⊢
  generalize ([] : List Loc) = lc0 at hS ⊢
  refine lv_aload_n hx hb d_La_roots_0 rfl (lv_at hl 2 rfl) ?_
  refine lv_iconst (v := 0) hx hb d_La_roots_1 (by decide) ?_
  refine lv_aload_n hx hb d_La_roots_2 rfl (lv_at hl 0 rfl) ?_
  refine lv_iload_n hx hb d_La_roots_3 rfl (lv_at hl 1 rfl) ?_
  refine pw_callV X hS (As := [.int p0]) (rest := [.int 0, .ref oa]) hM hz w_cd_D_roots w_ini_D w_ml_La_19 w_im_D_roots w_se_D_roots hx0 rfl hd_D_roots rfl hl.1 (Nat.le_of_ble_eq_true rfl) d_La_roots_4 ⟨by show d + 1 ≤ d + 1; omega, by show 8 + (3 + 11) + 64 * d ≤ 64 * (d + 1); omega⟩ ⟨show 0 + mc ≤ mc by omega, show 0 + ms ≤ ms by omega⟩ (fun v f1 H1 lc1 hp hS1 => ?_)
  obtain ⟨rfl, hp⟩ := hp
  obtain ⟨go, ho1⟩ := ho _ _ hp
  refine lv_i2l hx hb d_La_roots_7 rfl ?_
  refine pw_lst X hS1 ho1 (vp_in_nI (n := 0) (by decide) (by decide)) d_La_roots_8 (fun H2 lc2 hy hS2 => ?_)
  refine lv_goto (tgt := 18) hx hb d_La_roots_9 (by decide) ?_
  refine lv_iconst (v := 0) hx hb d_La_roots_18 (by decide) ?_
  exact pw_iret X hS2 hr ⟨rfl, f1, _, by rw [hy]; exact hp, if_pos rfl, rfl⟩ (show 0 + mc ≤ mc by omega) (show 0 + ms ≤ ms by omega) d_La_roots_19
theorem d_La_repeated_0 : decode b_La_repeated 0 = .ok (.aload_n 2, 1) := by decide +kernel
theorem d_La_repeated_1 : decode b_La_repeated 1 = .ok (.iconst 0, 1) := by decide +kernel
theorem d_La_repeated_2 : decode b_La_repeated 2 = .ok (.aload_n 0, 1) := by decide +kernel
theorem d_La_repeated_3 : decode b_La_repeated 3 = .ok (.iload_n 1, 1) := by decide +kernel
theorem d_La_repeated_4 : decode b_La_repeated 4 = .ok (.invokevirtual 24, 3) := by decide +kernel
theorem d_La_repeated_7 : decode b_La_repeated 7 = .ok (.i2l, 1) := by decide +kernel
theorem d_La_repeated_8 : decode b_La_repeated 8 = .ok (.lastore, 1) := by decide +kernel
theorem d_La_repeated_9 : decode b_La_repeated 9 = .ok (.goto 9, 3) := by decide +kernel
theorem d_La_repeated_12 : decode b_La_repeated 12 = .ok (.astore_n 3, 1) := by decide +kernel
theorem d_La_repeated_13 : decode b_La_repeated 13 = .ok (.iconst 1, 1) := by decide +kernel
theorem d_La_repeated_14 : decode b_La_repeated 14 = .ok (.ireturn, 1) := by decide +kernel
theorem d_La_repeated_15 : decode b_La_repeated 15 = .ok (.astore_n 3, 1) := by decide +kernel
theorem d_La_repeated_16 : decode b_La_repeated 16 = .ok (.iconst 2, 1) := by decide +kernel
theorem d_La_repeated_17 : decode b_La_repeated 17 = .ok (.ireturn, 1) := by decide +kernel
theorem d_La_repeated_18 : decode b_La_repeated 18 = .ok (.iconst 0, 1) := by decide +kernel
theorem d_La_repeated_19 : decode b_La_repeated 19 = .ok (.ireturn, 1) := by decide +kernel
set_option maxHeartbeats 4000000 in
set_option maxRecDepth 100000 in
theorem v_La_repeated_IAE (l : Launch) (K : pw_K) (f : pw_F) (xa oa sz d mc ms : Nat) (p0 : Int32) {fs : List Value} (hx0 : f xa = some (.inr (10, fs))) {post : pw_F → Prop} (hM : pw_T l K y_D_repeated b_D_repeated 3 (some .int) (rmk d mc ms) f [.ref xa, .int p0] sz sIAE post) : pw_W l K y_La_repeated b_La_repeated 4 (some .int) [(0, 9, 12, 13), (0, 9, 15, 22)] (rmk (d + 1) mc ms) f [.ref xa, .int p0, .ref oa] sz (fun v f2 z => v = some (.int 1) ∧ post f2) := by
  refine pw_startW (by decide) (Nat.le_of_ble_eq_true rfl) ?_
  intro p e s m args below meth c ls X htab hr hz hS hl
  have hl : lv_has ls 4 [(0, .ref xa), (1, .int p0), (2, .ref oa)] := hl
  have htb := tb_of htab
  have hZ := X.2.2.2.2.2.2.2.1
  have hx := X.1
  have hb := X.2.1
  generalize s.heap = H0 at hz hS ⊢
  generalize ([] : List Loc) = lc0 at hS ⊢
  refine lv_aload_n hx hb d_La_repeated_0 rfl (lv_at hl 2 rfl) ?_
  refine lv_iconst (v := 0) hx hb d_La_repeated_1 (by decide) ?_
  refine lv_aload_n hx hb d_La_repeated_2 rfl (lv_at hl 0 rfl) ?_
  refine lv_iload_n hx hb d_La_repeated_3 rfl (lv_at hl 1 rfl) ?_
  have hpre : ∀ z ∈ ([] : List ExceptionTableEntry), covers z 4 = true ∧ z.catchType ≠ 0 ∧ ∃ E', Cond.classLink R_La z.catchType E' ∈ lw_G ∧ (Cond.not (.castable sIAE E')).before (pA K) (pZ K) = true := (fun _ h => absurd h List.not_mem_nil)
  refine pw_callVH X hS (As := [.int p0]) (rest := [.int 0, .ref oa]) hM hz w_cd_D_repeated w_ini_D w_ml_La_24 w_im_D_repeated w_se_D_repeated hx0 rfl hd_D_repeated rfl hl.1 (Nat.le_of_ble_eq_true rfl) d_La_repeated_4 ⟨by show d + 1 ≤ d + 1; omega, by show 8 + (3 + 11) + 64 * d ≤ 64 * (d + 1); omega⟩ ⟨show 0 + mc ≤ mc by omega, show 0 + ms ≤ ms by omega⟩ [] ⟨0, 9, 12, 13⟩ [⟨0, 9, 15, 22⟩] htb ⟨by decide, by decide, w_cl_La_13⟩ (ca_IAE K hZ).1 (ca_IAE K hZ).2 hpre (fun xe f1 H1 lc1 hp hS1 => ?_)
  refine lv_astore_n (lv' := [(3, .ref xe), (0, .ref xa), (1, .int p0), (2, .ref oa)]) hx hb d_La_repeated_12 rfl hl (by decide) rfl (fun ls hl => ?_)
  refine lv_iconst (v := 1) hx hb d_La_repeated_13 (by decide) ?_
  exact pw_iret X hS1 hr ⟨rfl, hp⟩ (show 0 + mc ≤ mc by omega) (show 0 + ms ≤ ms by omega) d_La_repeated_14
set_option maxHeartbeats 4000000 in
set_option maxRecDepth 100000 in
theorem v_La_repeated_ISE (l : Launch) (K : pw_K) (f : pw_F) (xa oa sz d mc ms : Nat) (p0 : Int32) {fs : List Value} (hx0 : f xa = some (.inr (10, fs))) {post : pw_F → Prop} (hM : pw_T l K y_D_repeated b_D_repeated 3 (some .int) (rmk d mc ms) f [.ref xa, .int p0] sz sISE post) : pw_W l K y_La_repeated b_La_repeated 4 (some .int) [(0, 9, 12, 13), (0, 9, 15, 22)] (rmk (d + 1) mc ms) f [.ref xa, .int p0, .ref oa] sz (fun v f2 z => v = some (.int 2) ∧ post f2) := by
  refine pw_startW (by decide) (Nat.le_of_ble_eq_true rfl) ?_
  intro p e s m args below meth c ls X htab hr hz hS hl
  have hl : lv_has ls 4 [(0, .ref xa), (1, .int p0), (2, .ref oa)] := hl
  have htb := tb_of htab
  have hZ := X.2.2.2.2.2.2.2.1
  have hx := X.1
  have hb := X.2.1
  generalize s.heap = H0 at hz hS ⊢
  generalize ([] : List Loc) = lc0 at hS ⊢
  refine lv_aload_n hx hb d_La_repeated_0 rfl (lv_at hl 2 rfl) ?_
  refine lv_iconst (v := 0) hx hb d_La_repeated_1 (by decide) ?_
  refine lv_aload_n hx hb d_La_repeated_2 rfl (lv_at hl 0 rfl) ?_
  refine lv_iload_n hx hb d_La_repeated_3 rfl (lv_at hl 1 rfl) ?_
  have hpre : ∀ z ∈ ([⟨0, 9, 12, 13⟩] : List ExceptionTableEntry), covers z 4 = true ∧ z.catchType ≠ 0 ∧ ∃ E', Cond.classLink R_La z.catchType E' ∈ lw_G ∧ (Cond.not (.castable sISE E')).before (pA K) (pZ K) = true := (List.forall_mem_cons.mpr ⟨⟨by decide, by decide, _, w_cl_La_13, nc_ISE_IAE K hZ⟩, (fun _ h => absurd h List.not_mem_nil)⟩)
  refine pw_callVH X hS (As := [.int p0]) (rest := [.int 0, .ref oa]) hM hz w_cd_D_repeated w_ini_D w_ml_La_24 w_im_D_repeated w_se_D_repeated hx0 rfl hd_D_repeated rfl hl.1 (Nat.le_of_ble_eq_true rfl) d_La_repeated_4 ⟨by show d + 1 ≤ d + 1; omega, by show 8 + (3 + 11) + 64 * d ≤ 64 * (d + 1); omega⟩ ⟨show 0 + mc ≤ mc by omega, show 0 + ms ≤ ms by omega⟩ [⟨0, 9, 12, 13⟩] ⟨0, 9, 15, 22⟩ [] htb ⟨by decide, by decide, w_cl_La_22⟩ (ca_ISE K hZ).1 (ca_ISE K hZ).2 hpre (fun xe f1 H1 lc1 hp hS1 => ?_)
  refine lv_astore_n (lv' := [(3, .ref xe), (0, .ref xa), (1, .int p0), (2, .ref oa)]) hx hb d_La_repeated_15 rfl hl (by decide) rfl (fun ls hl => ?_)
  refine lv_iconst (v := 2) hx hb d_La_repeated_16 (by decide) ?_
  exact pw_iret X hS1 hr ⟨rfl, hp⟩ (show 0 + mc ≤ mc by omega) (show 0 + ms ≤ ms by omega) d_La_repeated_17
set_option maxHeartbeats 4000000 in
set_option maxRecDepth 100000 in
theorem v_La_repeated (l : Launch) (K : pw_K) (f : pw_F) (xa oa sz d mc ms : Nat) (p0 : Int32) (r : Int32) {fs : List Value} (hx0 : f xa = some (.inr (10, fs))) {post : pw_F → Nat → Prop} (hM : pw_C l K y_D_repeated b_D_repeated 3 (some .int) (rmk d mc ms) f [.ref xa, .int p0] sz (fun v f2 z => v = some (.int r) ∧ post f2 z)) (ho : ∀ f2 z, post f2 z → ∃ go : Nat → Int64, f2 oa = some (.inl (pE K 1, 1, .inr (.inl go)))) : pw_W l K y_La_repeated b_La_repeated 4 (some .int) [(0, 9, 12, 13), (0, 9, 15, 22)] (rmk (d + 1) mc ms) f [.ref xa, .int p0, .ref oa] sz (fun v f2 z => v = some (.int 0) ∧ ∃ (f1 : pw_F) (go : Nat → Int64), post f1 z ∧ go 0 = r.toInt64 ∧ f2 = pw_up f1 oa (.inl (pE K 1, 1, .inr (.inl go)))) := by
  refine pw_startW (by decide) (Nat.le_of_ble_eq_true rfl) ?_
  intro p e s m args below meth c ls X htab hr hz hS hl
  have hl : lv_has ls 4 [(0, .ref xa), (1, .int p0), (2, .ref oa)] := hl
  have htb := tb_of htab
  have hZ := X.2.2.2.2.2.2.2.1
  have hx := X.1
  have hb := X.2.1
  generalize s.heap = H0 at hz hS ⊢
  generalize ([] : List Loc) = lc0 at hS ⊢
  refine lv_aload_n hx hb d_La_repeated_0 rfl (lv_at hl 2 rfl) ?_
  refine lv_iconst (v := 0) hx hb d_La_repeated_1 (by decide) ?_
  refine lv_aload_n hx hb d_La_repeated_2 rfl (lv_at hl 0 rfl) ?_
  refine lv_iload_n hx hb d_La_repeated_3 rfl (lv_at hl 1 rfl) ?_
  refine pw_callV X hS (As := [.int p0]) (rest := [.int 0, .ref oa]) hM hz w_cd_D_repeated w_ini_D w_ml_La_24 w_im_D_repeated w_se_D_repeated hx0 rfl hd_D_repeated rfl hl.1 (Nat.le_of_ble_eq_true rfl) d_La_repeated_4 ⟨by show d + 1 ≤ d + 1; omega, by show 8 + (3 + 11) + 64 * d ≤ 64 * (d + 1); omega⟩ ⟨show 0 + mc ≤ mc by omega, show 0 + ms ≤ ms by omega⟩ (fun v f1 H1 lc1 hp hS1 => ?_)
  obtain ⟨rfl, hp⟩ := hp
  obtain ⟨go, ho1⟩ := ho _ _ hp
  refine lv_i2l hx hb d_La_repeated_7 rfl ?_
  refine pw_lst X hS1 ho1 (vp_in_nI (n := 0) (by decide) (by decide)) d_La_repeated_8 (fun H2 lc2 hy hS2 => ?_)
  refine lv_goto (tgt := 18) hx hb d_La_repeated_9 (by decide) ?_
  refine lv_iconst (v := 0) hx hb d_La_repeated_18 (by decide) ?_
  exact pw_iret X hS2 hr ⟨rfl, f1, _, by rw [hy]; exact hp, if_pos rfl, rfl⟩ (show 0 + mc ≤ mc by omega) (show 0 + ms ≤ ms by omega) d_La_repeated_19
theorem d_La_sign_0 : decode b_La_sign 0 = .ok (.aload 5, 2) := by decide +kernel
theorem d_La_sign_2 : decode b_La_sign 2 = .ok (.iconst 0, 1) := by decide +kernel
theorem d_La_sign_3 : decode b_La_sign 3 = .ok (.aload_n 0, 1) := by decide +kernel
theorem d_La_sign_4 : decode b_La_sign 4 = .ok (.iload_n 1, 1) := by decide +kernel
theorem d_La_sign_5 : decode b_La_sign 5 = .ok (.lload_n 2, 1) := by decide +kernel
theorem d_La_sign_6 : decode b_La_sign 6 = .ok (.iload 4, 2) := by decide +kernel
theorem d_La_sign_8 : decode b_La_sign 8 = .ok (.invokevirtual 27, 3) := by decide +kernel
theorem d_La_sign_11 : decode b_La_sign 11 = .ok (.i2l, 1) := by decide +kernel
theorem d_La_sign_12 : decode b_La_sign 12 = .ok (.lastore, 1) := by decide +kernel
theorem d_La_sign_13 : decode b_La_sign 13 = .ok (.goto 11, 3) := by decide +kernel
theorem d_La_sign_16 : decode b_La_sign 16 = .ok (.astore 6, 2) := by decide +kernel
theorem d_La_sign_18 : decode b_La_sign 18 = .ok (.iconst 1, 1) := by decide +kernel
theorem d_La_sign_19 : decode b_La_sign 19 = .ok (.ireturn, 1) := by decide +kernel
theorem d_La_sign_20 : decode b_La_sign 20 = .ok (.astore 6, 2) := by decide +kernel
theorem d_La_sign_22 : decode b_La_sign 22 = .ok (.iconst 2, 1) := by decide +kernel
theorem d_La_sign_23 : decode b_La_sign 23 = .ok (.ireturn, 1) := by decide +kernel
theorem d_La_sign_24 : decode b_La_sign 24 = .ok (.iconst 0, 1) := by decide +kernel
theorem d_La_sign_25 : decode b_La_sign 25 = .ok (.ireturn, 1) := by decide +kernel
set_option maxHeartbeats 4000000 in
set_option maxRecDepth 100000 in
theorem v_La_sign_IAE (l : Launch) (K : pw_K) (f : pw_F) (xa oa sz d mc ms : Nat) (p0 : Int32) (q1 : Int64) (p2 : Int32) {fs : List Value} (hx0 : f xa = some (.inr (10, fs))) {post : pw_F → Prop} (hM : pw_T l K y_D_sign b_D_sign 6 (some .int) (rmk d mc ms) f [.ref xa, .int p0, .long q1, .int p2] sz sIAE post) : pw_W l K y_La_sign b_La_sign 7 (some .int) [(0, 13, 16, 13), (0, 13, 20, 22)] (rmk (d + 1) mc ms) f [.ref xa, .int p0, .long q1, .int p2, .ref oa] sz (fun v f2 z => v = some (.int 1) ∧ post f2) := by
  refine pw_startW (by decide) (Nat.le_of_ble_eq_true rfl) ?_
  intro p e s m args below meth c ls X htab hr hz hS hl
  have hl : lv_has ls 7 [(0, .ref xa), (1, .int p0), (2, .long q1), (4, .int p2), (5, .ref oa)] := hl
  have htb := tb_of htab
  have hZ := X.2.2.2.2.2.2.2.1
  have hx := X.1
  have hb := X.2.1
  generalize s.heap = H0 at hz hS ⊢
  generalize ([] : List Loc) = lc0 at hS ⊢
  refine lv_aload hx hb d_La_sign_0 (lv_at hl 4 rfl) ?_
  refine lv_iconst (v := 0) hx hb d_La_sign_2 (by decide) ?_
  refine lv_aload_n hx hb d_La_sign_3 rfl (lv_at hl 0 rfl) ?_
  refine lv_iload_n hx hb d_La_sign_4 rfl (lv_at hl 1 rfl) ?_
  refine lv_lload_n hx hb d_La_sign_5 rfl (lv_at hl 2 rfl) ?_
  refine lv_iload hx hb d_La_sign_6 (lv_at hl 3 rfl) ?_
  have hpre : ∀ z ∈ ([] : List ExceptionTableEntry), covers z 8 = true ∧ z.catchType ≠ 0 ∧ ∃ E', Cond.classLink R_La z.catchType E' ∈ lw_G ∧ (Cond.not (.castable sIAE E')).before (pA K) (pZ K) = true := (fun _ h => absurd h List.not_mem_nil)
  refine pw_callVH X hS (As := [.int p0, .long q1, .int p2]) (rest := [.int 0, .ref oa]) hM hz w_cd_D_sign w_ini_D w_ml_La_27 w_im_D_sign w_se_D_sign hx0 rfl hd_D_sign rfl hl.1 (Nat.le_of_ble_eq_true rfl) d_La_sign_8 ⟨by show d + 1 ≤ d + 1; omega, by show 8 + (6 + 11) + 64 * d ≤ 64 * (d + 1); omega⟩ ⟨show 0 + mc ≤ mc by omega, show 0 + ms ≤ ms by omega⟩ [] ⟨0, 13, 16, 13⟩ [⟨0, 13, 20, 22⟩] htb ⟨by decide, by decide, w_cl_La_13⟩ (ca_IAE K hZ).1 (ca_IAE K hZ).2 hpre (fun xe f1 H1 lc1 hp hS1 => ?_)
  refine lv_astore (lv' := [(6, .ref xe), (0, .ref xa), (1, .int p0), (2, .long q1), (4, .int p2), (5, .ref oa)]) hx hb d_La_sign_16 hl (by decide) rfl (fun ls hl => ?_)
  refine lv_iconst (v := 1) hx hb d_La_sign_18 (by decide) ?_
  exact pw_iret X hS1 hr ⟨rfl, hp⟩ (show 0 + mc ≤ mc by omega) (show 0 + ms ≤ ms by omega) d_La_sign_19
set_option maxHeartbeats 4000000 in
set_option maxRecDepth 100000 in
theorem v_La_sign_ISE (l : Launch) (K : pw_K) (f : pw_F) (xa oa sz d mc ms : Nat) (p0 : Int32) (q1 : Int64) (p2 : Int32) {fs : List Value} (hx0 : f xa = some (.inr (10, fs))) {post : pw_F → Prop} (hM : pw_T l K y_D_sign b_D_sign 6 (some .int) (rmk d mc ms) f [.ref xa, .int p0, .long q1, .int p2] sz sISE post) : pw_W l K y_La_sign b_La_sign 7 (some .int) [(0, 13, 16, 13), (0, 13, 20, 22)] (rmk (d + 1) mc ms) f [.ref xa, .int p0, .long q1, .int p2, .ref oa] sz (fun v f2 z => v = some (.int 2) ∧ post f2) := by
  refine pw_startW (by decide) (Nat.le_of_ble_eq_true rfl) ?_
  intro p e s m args below meth c ls X htab hr hz hS hl
  have hl : lv_has ls 7 [(0, .ref xa), (1, .int p0), (2, .long q1), (4, .int p2), (5, .ref oa)] := hl
  have htb := tb_of htab
  have hZ := X.2.2.2.2.2.2.2.1
  have hx := X.1
  have hb := X.2.1
  generalize s.heap = H0 at hz hS ⊢
  generalize ([] : List Loc) = lc0 at hS ⊢
  refine lv_aload hx hb d_La_sign_0 (lv_at hl 4 rfl) ?_
  refine lv_iconst (v := 0) hx hb d_La_sign_2 (by decide) ?_
  refine lv_aload_n hx hb d_La_sign_3 rfl (lv_at hl 0 rfl) ?_
  refine lv_iload_n hx hb d_La_sign_4 rfl (lv_at hl 1 rfl) ?_
  refine lv_lload_n hx hb d_La_sign_5 rfl (lv_at hl 2 rfl) ?_
  refine lv_iload hx hb d_La_sign_6 (lv_at hl 3 rfl) ?_
  have hpre : ∀ z ∈ ([⟨0, 13, 16, 13⟩] : List ExceptionTableEntry), covers z 8 = true ∧ z.catchType ≠ 0 ∧ ∃ E', Cond.classLink R_La z.catchType E' ∈ lw_G ∧ (Cond.not (.castable sISE E')).before (pA K) (pZ K) = true := (List.forall_mem_cons.mpr ⟨⟨by decide, by decide, _, w_cl_La_13, nc_ISE_IAE K hZ⟩, (fun _ h => absurd h List.not_mem_nil)⟩)
  refine pw_callVH X hS (As := [.int p0, .long q1, .int p2]) (rest := [.int 0, .ref oa]) hM hz w_cd_D_sign w_ini_D w_ml_La_27 w_im_D_sign w_se_D_sign hx0 rfl hd_D_sign rfl hl.1 (Nat.le_of_ble_eq_true rfl) d_La_sign_8 ⟨by show d + 1 ≤ d + 1; omega, by show 8 + (6 + 11) + 64 * d ≤ 64 * (d + 1); omega⟩ ⟨show 0 + mc ≤ mc by omega, show 0 + ms ≤ ms by omega⟩ [⟨0, 13, 16, 13⟩] ⟨0, 13, 20, 22⟩ [] htb ⟨by decide, by decide, w_cl_La_22⟩ (ca_ISE K hZ).1 (ca_ISE K hZ).2 hpre (fun xe f1 H1 lc1 hp hS1 => ?_)
  refine lv_astore (lv' := [(6, .ref xe), (0, .ref xa), (1, .int p0), (2, .long q1), (4, .int p2), (5, .ref oa)]) hx hb d_La_sign_20 hl (by decide) rfl (fun ls hl => ?_)
  refine lv_iconst (v := 2) hx hb d_La_sign_22 (by decide) ?_
  exact pw_iret X hS1 hr ⟨rfl, hp⟩ (show 0 + mc ≤ mc by omega) (show 0 + ms ≤ ms by omega) d_La_sign_23
set_option maxHeartbeats 4000000 in
set_option maxRecDepth 100000 in
theorem v_La_sign (l : Launch) (K : pw_K) (f : pw_F) (xa oa sz d mc ms : Nat) (p0 : Int32) (q1 : Int64) (p2 : Int32) (r : Int32) {fs : List Value} (hx0 : f xa = some (.inr (10, fs))) {post : pw_F → Nat → Prop} (hM : pw_C l K y_D_sign b_D_sign 6 (some .int) (rmk d mc ms) f [.ref xa, .int p0, .long q1, .int p2] sz (fun v f2 z => v = some (.int r) ∧ post f2 z)) (ho : ∀ f2 z, post f2 z → ∃ go : Nat → Int64, f2 oa = some (.inl (pE K 1, 1, .inr (.inl go)))) : pw_W l K y_La_sign b_La_sign 7 (some .int) [(0, 13, 16, 13), (0, 13, 20, 22)] (rmk (d + 1) mc ms) f [.ref xa, .int p0, .long q1, .int p2, .ref oa] sz (fun v f2 z => v = some (.int 0) ∧ ∃ (f1 : pw_F) (go : Nat → Int64), post f1 z ∧ go 0 = r.toInt64 ∧ f2 = pw_up f1 oa (.inl (pE K 1, 1, .inr (.inl go)))) := by
  refine pw_startW (by decide) (Nat.le_of_ble_eq_true rfl) ?_
  intro p e s m args below meth c ls X htab hr hz hS hl
  have hl : lv_has ls 7 [(0, .ref xa), (1, .int p0), (2, .long q1), (4, .int p2), (5, .ref oa)] := hl
  have htb := tb_of htab
  have hZ := X.2.2.2.2.2.2.2.1
  have hx := X.1
  have hb := X.2.1
  generalize s.heap = H0 at hz hS ⊢
  generalize ([] : List Loc) = lc0 at hS ⊢
  refine lv_aload hx hb d_La_sign_0 (lv_at hl 4 rfl) ?_
  refine lv_iconst (v := 0) hx hb d_La_sign_2 (by decide) ?_
  refine lv_aload_n hx hb d_La_sign_3 rfl (lv_at hl 0 rfl) ?_
  refine lv_iload_n hx hb d_La_sign_4 rfl (lv_at hl 1 rfl) ?_
  refine lv_lload_n hx hb d_La_sign_5 rfl (lv_at hl 2 rfl) ?_
  refine lv_iload hx hb d_La_sign_6 (lv_at hl 3 rfl) ?_
  refine pw_callV X hS (As := [.int p0, .long q1, .int p2]) (rest := [.int 0, .ref oa]) hM hz w_cd_D_sign w_ini_D w_ml_La_27 w_im_D_sign w_se_D_sign hx0 rfl hd_D_sign rfl hl.1 (Nat.le_of_ble_eq_true rfl) d_La_sign_8 ⟨by show d + 1 ≤ d + 1; omega, by show 8 + (6 + 11) + 64 * d ≤ 64 * (d + 1); omega⟩ ⟨show 0 + mc ≤ mc by omega, show 0 + ms ≤ ms by omega⟩ (fun v f1 H1 lc1 hp hS1 => ?_)
  obtain ⟨rfl, hp⟩ := hp
  obtain ⟨go, ho1⟩ := ho _ _ hp
  refine lv_i2l hx hb d_La_sign_11 rfl ?_
  refine pw_lst X hS1 ho1 (vp_in_nI (n := 0) (by decide) (by decide)) d_La_sign_12 (fun H2 lc2 hy hS2 => ?_)
  refine lv_goto (tgt := 24) hx hb d_La_sign_13 (by decide) ?_
  refine lv_iconst (v := 0) hx hb d_La_sign_24 (by decide) ?_
  exact pw_iret X hS2 hr ⟨rfl, f1, _, by rw [hy]; exact hp, if_pos rfl, rfl⟩ (show 0 + mc ≤ mc by omega) (show 0 + ms ≤ ms by omega) d_La_sign_25
theorem d_La_between_0 : decode b_La_between 0 = .ok (.aload 8, 2) := by decide +kernel
theorem d_La_between_2 : decode b_La_between 2 = .ok (.iconst 0, 1) := by decide +kernel
theorem d_La_between_3 : decode b_La_between 3 = .ok (.aload_n 0, 1) := by decide +kernel
theorem d_La_between_4 : decode b_La_between 4 = .ok (.iload_n 1, 1) := by decide +kernel
theorem d_La_between_5 : decode b_La_between 5 = .ok (.lload_n 2, 1) := by decide +kernel
theorem d_La_between_6 : decode b_La_between 6 = .ok (.iload 4, 2) := by decide +kernel
theorem d_La_between_8 : decode b_La_between 8 = .ok (.lload 5, 2) := by decide +kernel
theorem d_La_between_10 : decode b_La_between 10 = .ok (.iload 7, 2) := by decide +kernel
theorem d_La_between_12 : decode b_La_between 12 = .ok (.invokevirtual 31, 3) := by decide +kernel
theorem d_La_between_15 : decode b_La_between 15 = .ok (.i2l, 1) := by decide +kernel
theorem d_La_between_16 : decode b_La_between 16 = .ok (.lastore, 1) := by decide +kernel
theorem d_La_between_17 : decode b_La_between 17 = .ok (.goto 11, 3) := by decide +kernel
theorem d_La_between_20 : decode b_La_between 20 = .ok (.astore 9, 2) := by decide +kernel
theorem d_La_between_22 : decode b_La_between 22 = .ok (.iconst 1, 1) := by decide +kernel
theorem d_La_between_23 : decode b_La_between 23 = .ok (.ireturn, 1) := by decide +kernel
theorem d_La_between_24 : decode b_La_between 24 = .ok (.astore 9, 2) := by decide +kernel
theorem d_La_between_26 : decode b_La_between 26 = .ok (.iconst 2, 1) := by decide +kernel
theorem d_La_between_27 : decode b_La_between 27 = .ok (.ireturn, 1) := by decide +kernel
theorem d_La_between_28 : decode b_La_between 28 = .ok (.iconst 0, 1) := by decide +kernel
theorem d_La_between_29 : decode b_La_between 29 = .ok (.ireturn, 1) := by decide +kernel
set_option maxHeartbeats 4000000 in
set_option maxRecDepth 100000 in
theorem v_La_between_IAE (l : Launch) (K : pw_K) (f : pw_F) (xa oa sz d mc ms : Nat) (p0 : Int32) (q1 : Int64) (p2 : Int32) (q3 : Int64) (p4 : Int32) {fs : List Value} (hx0 : f xa = some (.inr (10, fs))) {post : pw_F → Prop} (hM : pw_T l K y_D_between b_D_between 11 (some .int) (rmk d mc ms) f [.ref xa, .int p0, .long q1, .int p2, .long q3, .int p4] sz sIAE post) : pw_W l K y_La_between b_La_between 10 (some .int) [(0, 17, 20, 13), (0, 17, 24, 22)] (rmk (d + 1) mc ms) f [.ref xa, .int p0, .long q1, .int p2, .long q3, .int p4, .ref oa] sz (fun v f2 z => v = some (.int 1) ∧ post f2) := by
  refine pw_startW (by decide) (Nat.le_of_ble_eq_true rfl) ?_
  intro p e s m args below meth c ls X htab hr hz hS hl
  have hl : lv_has ls 10 [(0, .ref xa), (1, .int p0), (2, .long q1), (4, .int p2), (5, .long q3), (7, .int p4), (8, .ref oa)] := hl
  have htb := tb_of htab
  have hZ := X.2.2.2.2.2.2.2.1
  have hx := X.1
  have hb := X.2.1
  generalize s.heap = H0 at hz hS ⊢
  generalize ([] : List Loc) = lc0 at hS ⊢
  refine lv_aload hx hb d_La_between_0 (lv_at hl 6 rfl) ?_
  refine lv_iconst (v := 0) hx hb d_La_between_2 (by decide) ?_
  refine lv_aload_n hx hb d_La_between_3 rfl (lv_at hl 0 rfl) ?_
  refine lv_iload_n hx hb d_La_between_4 rfl (lv_at hl 1 rfl) ?_
  refine lv_lload_n hx hb d_La_between_5 rfl (lv_at hl 2 rfl) ?_
  refine lv_iload hx hb d_La_between_6 (lv_at hl 3 rfl) ?_
  refine lv_lload hx hb d_La_between_8 (lv_at hl 4 rfl) ?_
  refine lv_iload hx hb d_La_between_10 (lv_at hl 5 rfl) ?_
  have hpre : ∀ z ∈ ([] : List ExceptionTableEntry), covers z 12 = true ∧ z.catchType ≠ 0 ∧ ∃ E', Cond.classLink R_La z.catchType E' ∈ lw_G ∧ (Cond.not (.castable sIAE E')).before (pA K) (pZ K) = true := (fun _ h => absurd h List.not_mem_nil)
  refine pw_callVH X hS (As := [.int p0, .long q1, .int p2, .long q3, .int p4]) (rest := [.int 0, .ref oa]) hM hz w_cd_D_between w_ini_D w_ml_La_31 w_im_D_between w_se_D_between hx0 rfl hd_D_between rfl hl.1 (Nat.le_of_ble_eq_true rfl) d_La_between_12 ⟨by show d + 1 ≤ d + 1; omega, by show 8 + (11 + 11) + 64 * d ≤ 64 * (d + 1); omega⟩ ⟨show 0 + mc ≤ mc by omega, show 0 + ms ≤ ms by omega⟩ [] ⟨0, 17, 20, 13⟩ [⟨0, 17, 24, 22⟩] htb ⟨by decide, by decide, w_cl_La_13⟩ (ca_IAE K hZ).1 (ca_IAE K hZ).2 hpre (fun xe f1 H1 lc1 hp hS1 => ?_)
  refine lv_astore (lv' := [(9, .ref xe), (0, .ref xa), (1, .int p0), (2, .long q1), (4, .int p2), (5, .long q3), (7, .int p4), (8, .ref oa)]) hx hb d_La_between_20 hl (by decide) rfl (fun ls hl => ?_)
  refine lv_iconst (v := 1) hx hb d_La_between_22 (by decide) ?_
  exact pw_iret X hS1 hr ⟨rfl, hp⟩ (show 0 + mc ≤ mc by omega) (show 0 + ms ≤ ms by omega) d_La_between_23
set_option maxHeartbeats 4000000 in
set_option maxRecDepth 100000 in
theorem v_La_between_ISE (l : Launch) (K : pw_K) (f : pw_F) (xa oa sz d mc ms : Nat) (p0 : Int32) (q1 : Int64) (p2 : Int32) (q3 : Int64) (p4 : Int32) {fs : List Value} (hx0 : f xa = some (.inr (10, fs))) {post : pw_F → Prop} (hM : pw_T l K y_D_between b_D_between 11 (some .int) (rmk d mc ms) f [.ref xa, .int p0, .long q1, .int p2, .long q3, .int p4] sz sISE post) : pw_W l K y_La_between b_La_between 10 (some .int) [(0, 17, 20, 13), (0, 17, 24, 22)] (rmk (d + 1) mc ms) f [.ref xa, .int p0, .long q1, .int p2, .long q3, .int p4, .ref oa] sz (fun v f2 z => v = some (.int 2) ∧ post f2) := by
  refine pw_startW (by decide) (Nat.le_of_ble_eq_true rfl) ?_
  intro p e s m args below meth c ls X htab hr hz hS hl
  have hl : lv_has ls 10 [(0, .ref xa), (1, .int p0), (2, .long q1), (4, .int p2), (5, .long q3), (7, .int p4), (8, .ref oa)] := hl
  have htb := tb_of htab
  have hZ := X.2.2.2.2.2.2.2.1
  have hx := X.1
  have hb := X.2.1
  generalize s.heap = H0 at hz hS ⊢
  generalize ([] : List Loc) = lc0 at hS ⊢
  refine lv_aload hx hb d_La_between_0 (lv_at hl 6 rfl) ?_
  refine lv_iconst (v := 0) hx hb d_La_between_2 (by decide) ?_
  refine lv_aload_n hx hb d_La_between_3 rfl (lv_at hl 0 rfl) ?_
  refine lv_iload_n hx hb d_La_between_4 rfl (lv_at hl 1 rfl) ?_
  refine lv_lload_n hx hb d_La_between_5 rfl (lv_at hl 2 rfl) ?_
  refine lv_iload hx hb d_La_between_6 (lv_at hl 3 rfl) ?_
  refine lv_lload hx hb d_La_between_8 (lv_at hl 4 rfl) ?_
  refine lv_iload hx hb d_La_between_10 (lv_at hl 5 rfl) ?_
  have hpre : ∀ z ∈ ([⟨0, 17, 20, 13⟩] : List ExceptionTableEntry), covers z 12 = true ∧ z.catchType ≠ 0 ∧ ∃ E', Cond.classLink R_La z.catchType E' ∈ lw_G ∧ (Cond.not (.castable sISE E')).before (pA K) (pZ K) = true := (List.forall_mem_cons.mpr ⟨⟨by decide, by decide, _, w_cl_La_13, nc_ISE_IAE K hZ⟩, (fun _ h => absurd h List.not_mem_nil)⟩)
  refine pw_callVH X hS (As := [.int p0, .long q1, .int p2, .long q3, .int p4]) (rest := [.int 0, .ref oa]) hM hz w_cd_D_between w_ini_D w_ml_La_31 w_im_D_between w_se_D_between hx0 rfl hd_D_between rfl hl.1 (Nat.le_of_ble_eq_true rfl) d_La_between_12 ⟨by show d + 1 ≤ d + 1; omega, by show 8 + (11 + 11) + 64 * d ≤ 64 * (d + 1); omega⟩ ⟨show 0 + mc ≤ mc by omega, show 0 + ms ≤ ms by omega⟩ [⟨0, 17, 20, 13⟩] ⟨0, 17, 24, 22⟩ [] htb ⟨by decide, by decide, w_cl_La_22⟩ (ca_ISE K hZ).1 (ca_ISE K hZ).2 hpre (fun xe f1 H1 lc1 hp hS1 => ?_)
  refine lv_astore (lv' := [(9, .ref xe), (0, .ref xa), (1, .int p0), (2, .long q1), (4, .int p2), (5, .long q3), (7, .int p4), (8, .ref oa)]) hx hb d_La_between_24 hl (by decide) rfl (fun ls hl => ?_)
  refine lv_iconst (v := 2) hx hb d_La_between_26 (by decide) ?_
  exact pw_iret X hS1 hr ⟨rfl, hp⟩ (show 0 + mc ≤ mc by omega) (show 0 + ms ≤ ms by omega) d_La_between_27
set_option maxHeartbeats 4000000 in
set_option maxRecDepth 100000 in
theorem v_La_between (l : Launch) (K : pw_K) (f : pw_F) (xa oa sz d mc ms : Nat) (p0 : Int32) (q1 : Int64) (p2 : Int32) (q3 : Int64) (p4 : Int32) (r : Int32) {fs : List Value} (hx0 : f xa = some (.inr (10, fs))) {post : pw_F → Nat → Prop} (hM : pw_C l K y_D_between b_D_between 11 (some .int) (rmk d mc ms) f [.ref xa, .int p0, .long q1, .int p2, .long q3, .int p4] sz (fun v f2 z => v = some (.int r) ∧ post f2 z)) (ho : ∀ f2 z, post f2 z → ∃ go : Nat → Int64, f2 oa = some (.inl (pE K 1, 1, .inr (.inl go)))) : pw_W l K y_La_between b_La_between 10 (some .int) [(0, 17, 20, 13), (0, 17, 24, 22)] (rmk (d + 1) mc ms) f [.ref xa, .int p0, .long q1, .int p2, .long q3, .int p4, .ref oa] sz (fun v f2 z => v = some (.int 0) ∧ ∃ (f1 : pw_F) (go : Nat → Int64), post f1 z ∧ go 0 = r.toInt64 ∧ f2 = pw_up f1 oa (.inl (pE K 1, 1, .inr (.inl go)))) := by
  refine pw_startW (by decide) (Nat.le_of_ble_eq_true rfl) ?_
  intro p e s m args below meth c ls X htab hr hz hS hl
  have hl : lv_has ls 10 [(0, .ref xa), (1, .int p0), (2, .long q1), (4, .int p2), (5, .long q3), (7, .int p4), (8, .ref oa)] := hl
  have htb := tb_of htab
  have hZ := X.2.2.2.2.2.2.2.1
  have hx := X.1
  have hb := X.2.1
  generalize s.heap = H0 at hz hS ⊢
  generalize ([] : List Loc) = lc0 at hS ⊢
  refine lv_aload hx hb d_La_between_0 (lv_at hl 6 rfl) ?_
  refine lv_iconst (v := 0) hx hb d_La_between_2 (by decide) ?_
  refine lv_aload_n hx hb d_La_between_3 rfl (lv_at hl 0 rfl) ?_
  refine lv_iload_n hx hb d_La_between_4 rfl (lv_at hl 1 rfl) ?_
  refine lv_lload_n hx hb d_La_between_5 rfl (lv_at hl 2 rfl) ?_
  refine lv_iload hx hb d_La_between_6 (lv_at hl 3 rfl) ?_
  refine lv_lload hx hb d_La_between_8 (lv_at hl 4 rfl) ?_
  refine lv_iload hx hb d_La_between_10 (lv_at hl 5 rfl) ?_
  refine pw_callV X hS (As := [.int p0, .long q1, .int p2, .long q3, .int p4]) (rest := [.int 0, .ref oa]) hM hz w_cd_D_between w_ini_D w_ml_La_31 w_im_D_between w_se_D_between hx0 rfl hd_D_between rfl hl.1 (Nat.le_of_ble_eq_true rfl) d_La_between_12 ⟨by show d + 1 ≤ d + 1; omega, by show 8 + (11 + 11) + 64 * d ≤ 64 * (d + 1); omega⟩ ⟨show 0 + mc ≤ mc by omega, show 0 + ms ≤ ms by omega⟩ (fun v f1 H1 lc1 hp hS1 => ?_)
  obtain ⟨rfl, hp⟩ := hp
  obtain ⟨go, ho1⟩ := ho _ _ hp
  refine lv_i2l hx hb d_La_between_15 rfl ?_
  refine pw_lst X hS1 ho1 (vp_in_nI (n := 0) (by decide) (by decide)) d_La_between_16 (fun H2 lc2 hy hS2 => ?_)
  refine lv_goto (tgt := 28) hx hb d_La_between_17 (by decide) ?_
  refine lv_iconst (v := 0) hx hb d_La_between_28 (by decide) ?_
  exact pw_iret X hS2 hr ⟨rfl, f1, _, by rw [hy]; exact hp, if_pos rfl, rfl⟩ (show 0 + mc ≤ mc by omega) (show 0 + ms ≤ ms by omega) d_La_between_29
theorem d_La_multiple_0 : decode b_La_multiple 0 = .ok (.aload_n 3, 1) := by decide +kernel
theorem d_La_multiple_1 : decode b_La_multiple 1 = .ok (.iconst 0, 1) := by decide +kernel
theorem d_La_multiple_2 : decode b_La_multiple 2 = .ok (.aload_n 0, 1) := by decide +kernel
theorem d_La_multiple_3 : decode b_La_multiple 3 = .ok (.iload_n 1, 1) := by decide +kernel
theorem d_La_multiple_4 : decode b_La_multiple 4 = .ok (.iload_n 2, 1) := by decide +kernel
theorem d_La_multiple_5 : decode b_La_multiple 5 = .ok (.invokevirtual 35, 3) := by decide +kernel
theorem d_La_multiple_8 : decode b_La_multiple 8 = .ok (.i2l, 1) := by decide +kernel
theorem d_La_multiple_9 : decode b_La_multiple 9 = .ok (.lastore, 1) := by decide +kernel
theorem d_La_multiple_10 : decode b_La_multiple 10 = .ok (.goto 15, 3) := by decide +kernel
theorem d_La_multiple_13 : decode b_La_multiple 13 = .ok (.astore 4, 2) := by decide +kernel
theorem d_La_multiple_15 : decode b_La_multiple 15 = .ok (.iconst 1, 1) := by decide +kernel
theorem d_La_multiple_16 : decode b_La_multiple 16 = .ok (.ireturn, 1) := by decide +kernel
theorem d_La_multiple_17 : decode b_La_multiple 17 = .ok (.astore 4, 2) := by decide +kernel
theorem d_La_multiple_19 : decode b_La_multiple 19 = .ok (.iconst 2, 1) := by decide +kernel
theorem d_La_multiple_20 : decode b_La_multiple 20 = .ok (.ireturn, 1) := by decide +kernel
theorem d_La_multiple_21 : decode b_La_multiple 21 = .ok (.astore 4, 2) := by decide +kernel
theorem d_La_multiple_23 : decode b_La_multiple 23 = .ok (.iconst 3, 1) := by decide +kernel
theorem d_La_multiple_24 : decode b_La_multiple 24 = .ok (.ireturn, 1) := by decide +kernel
theorem d_La_multiple_25 : decode b_La_multiple 25 = .ok (.iconst 0, 1) := by decide +kernel
theorem d_La_multiple_26 : decode b_La_multiple 26 = .ok (.ireturn, 1) := by decide +kernel
set_option maxHeartbeats 4000000 in
set_option maxRecDepth 100000 in
theorem v_La_multiple_IAE (l : Launch) (K : pw_K) (f : pw_F) (xa oa sz d mc ms : Nat) (p0 : Int32) (p1 : Int32) {fs : List Value} (hx0 : f xa = some (.inr (10, fs))) {post : pw_F → Prop} (hM : pw_T l K y_D_multiple b_D_multiple 4 (some .int) (rmk d mc ms) f [.ref xa, .int p0, .int p1] sz sIAE post) : pw_W l K y_La_multiple b_La_multiple 5 (some .int) [(0, 10, 13, 13), (0, 10, 17, 22), (0, 10, 21, 39)] (rmk (d + 1) mc ms) f [.ref xa, .int p0, .int p1, .ref oa] sz (fun v f2 z => v = some (.int 1) ∧ post f2) := by
  refine pw_startW (by decide) (Nat.le_of_ble_eq_true rfl) ?_
  intro p e s m args below meth c ls X htab hr hz hS hl
  have hl : lv_has ls 5 [(0, .ref xa), (1, .int p0), (2, .int p1), (3, .ref oa)] := hl
  have htb := tb_of htab
  have hZ := X.2.2.2.2.2.2.2.1
  have hx := X.1
  have hb := X.2.1
  generalize s.heap = H0 at hz hS ⊢
  generalize ([] : List Loc) = lc0 at hS ⊢
  refine lv_aload_n hx hb d_La_multiple_0 rfl (lv_at hl 3 rfl) ?_
  refine lv_iconst (v := 0) hx hb d_La_multiple_1 (by decide) ?_
  refine lv_aload_n hx hb d_La_multiple_2 rfl (lv_at hl 0 rfl) ?_
  refine lv_iload_n hx hb d_La_multiple_3 rfl (lv_at hl 1 rfl) ?_
  refine lv_iload_n hx hb d_La_multiple_4 rfl (lv_at hl 2 rfl) ?_
  have hpre : ∀ z ∈ ([] : List ExceptionTableEntry), covers z 5 = true ∧ z.catchType ≠ 0 ∧ ∃ E', Cond.classLink R_La z.catchType E' ∈ lw_G ∧ (Cond.not (.castable sIAE E')).before (pA K) (pZ K) = true := (fun _ h => absurd h List.not_mem_nil)
  refine pw_callVH X hS (As := [.int p0, .int p1]) (rest := [.int 0, .ref oa]) hM hz w_cd_D_multiple w_ini_D w_ml_La_35 w_im_D_multiple w_se_D_multiple hx0 rfl hd_D_multiple rfl hl.1 (Nat.le_of_ble_eq_true rfl) d_La_multiple_5 ⟨by show d + 1 ≤ d + 1; omega, by show 8 + (4 + 11) + 64 * d ≤ 64 * (d + 1); omega⟩ ⟨show 0 + mc ≤ mc by omega, show 0 + ms ≤ ms by omega⟩ [] ⟨0, 10, 13, 13⟩ [⟨0, 10, 17, 22⟩, ⟨0, 10, 21, 39⟩] htb ⟨by decide, by decide, w_cl_La_13⟩ (ca_IAE K hZ).1 (ca_IAE K hZ).2 hpre (fun xe f1 H1 lc1 hp hS1 => ?_)
  refine lv_astore (lv' := [(4, .ref xe), (0, .ref xa), (1, .int p0), (2, .int p1), (3, .ref oa)]) hx hb d_La_multiple_13 hl (by decide) rfl (fun ls hl => ?_)
  refine lv_iconst (v := 1) hx hb d_La_multiple_15 (by decide) ?_
  exact pw_iret X hS1 hr ⟨rfl, hp⟩ (show 0 + mc ≤ mc by omega) (show 0 + ms ≤ ms by omega) d_La_multiple_16
set_option maxHeartbeats 4000000 in
set_option maxRecDepth 100000 in
theorem v_La_multiple_ISE (l : Launch) (K : pw_K) (f : pw_F) (xa oa sz d mc ms : Nat) (p0 : Int32) (p1 : Int32) {fs : List Value} (hx0 : f xa = some (.inr (10, fs))) {post : pw_F → Prop} (hM : pw_T l K y_D_multiple b_D_multiple 4 (some .int) (rmk d mc ms) f [.ref xa, .int p0, .int p1] sz sISE post) : pw_W l K y_La_multiple b_La_multiple 5 (some .int) [(0, 10, 13, 13), (0, 10, 17, 22), (0, 10, 21, 39)] (rmk (d + 1) mc ms) f [.ref xa, .int p0, .int p1, .ref oa] sz (fun v f2 z => v = some (.int 2) ∧ post f2) := by
  refine pw_startW (by decide) (Nat.le_of_ble_eq_true rfl) ?_
  intro p e s m args below meth c ls X htab hr hz hS hl
  have hl : lv_has ls 5 [(0, .ref xa), (1, .int p0), (2, .int p1), (3, .ref oa)] := hl
  have htb := tb_of htab
  have hZ := X.2.2.2.2.2.2.2.1
  have hx := X.1
  have hb := X.2.1
  generalize s.heap = H0 at hz hS ⊢
  generalize ([] : List Loc) = lc0 at hS ⊢
  refine lv_aload_n hx hb d_La_multiple_0 rfl (lv_at hl 3 rfl) ?_
  refine lv_iconst (v := 0) hx hb d_La_multiple_1 (by decide) ?_
  refine lv_aload_n hx hb d_La_multiple_2 rfl (lv_at hl 0 rfl) ?_
  refine lv_iload_n hx hb d_La_multiple_3 rfl (lv_at hl 1 rfl) ?_
  refine lv_iload_n hx hb d_La_multiple_4 rfl (lv_at hl 2 rfl) ?_
  have hpre : ∀ z ∈ ([⟨0, 10, 13, 13⟩] : List ExceptionTableEntry), covers z 5 = true ∧ z.catchType ≠ 0 ∧ ∃ E', Cond.classLink R_La z.catchType E' ∈ lw_G ∧ (Cond.not (.castable sISE E')).before (pA K) (pZ K) = true := (List.forall_mem_cons.mpr ⟨⟨by decide, by decide, _, w_cl_La_13, nc_ISE_IAE K hZ⟩, (fun _ h => absurd h List.not_mem_nil)⟩)
  refine pw_callVH X hS (As := [.int p0, .int p1]) (rest := [.int 0, .ref oa]) hM hz w_cd_D_multiple w_ini_D w_ml_La_35 w_im_D_multiple w_se_D_multiple hx0 rfl hd_D_multiple rfl hl.1 (Nat.le_of_ble_eq_true rfl) d_La_multiple_5 ⟨by show d + 1 ≤ d + 1; omega, by show 8 + (4 + 11) + 64 * d ≤ 64 * (d + 1); omega⟩ ⟨show 0 + mc ≤ mc by omega, show 0 + ms ≤ ms by omega⟩ [⟨0, 10, 13, 13⟩] ⟨0, 10, 17, 22⟩ [⟨0, 10, 21, 39⟩] htb ⟨by decide, by decide, w_cl_La_22⟩ (ca_ISE K hZ).1 (ca_ISE K hZ).2 hpre (fun xe f1 H1 lc1 hp hS1 => ?_)
  refine lv_astore (lv' := [(4, .ref xe), (0, .ref xa), (1, .int p0), (2, .int p1), (3, .ref oa)]) hx hb d_La_multiple_17 hl (by decide) rfl (fun ls hl => ?_)
  refine lv_iconst (v := 2) hx hb d_La_multiple_19 (by decide) ?_
  exact pw_iret X hS1 hr ⟨rfl, hp⟩ (show 0 + mc ≤ mc by omega) (show 0 + ms ≤ ms by omega) d_La_multiple_20
set_option maxHeartbeats 4000000 in
set_option maxRecDepth 100000 in
theorem v_La_multiple_NSE (l : Launch) (K : pw_K) (f : pw_F) (xa oa sz d mc ms : Nat) (p0 : Int32) (p1 : Int32) {fs : List Value} (hx0 : f xa = some (.inr (10, fs))) {post : pw_F → Prop} (hM : pw_T l K y_D_multiple b_D_multiple 4 (some .int) (rmk d mc ms) f [.ref xa, .int p0, .int p1] sz sNSE post) : pw_W l K y_La_multiple b_La_multiple 5 (some .int) [(0, 10, 13, 13), (0, 10, 17, 22), (0, 10, 21, 39)] (rmk (d + 1) mc ms) f [.ref xa, .int p0, .int p1, .ref oa] sz (fun v f2 z => v = some (.int 3) ∧ post f2) := by
  refine pw_startW (by decide) (Nat.le_of_ble_eq_true rfl) ?_
  intro p e s m args below meth c ls X htab hr hz hS hl
  have hl : lv_has ls 5 [(0, .ref xa), (1, .int p0), (2, .int p1), (3, .ref oa)] := hl
  have htb := tb_of htab
  have hZ := X.2.2.2.2.2.2.2.1
  have hx := X.1
  have hb := X.2.1
  generalize s.heap = H0 at hz hS ⊢
  generalize ([] : List Loc) = lc0 at hS ⊢
  refine lv_aload_n hx hb d_La_multiple_0 rfl (lv_at hl 3 rfl) ?_
  refine lv_iconst (v := 0) hx hb d_La_multiple_1 (by decide) ?_
  refine lv_aload_n hx hb d_La_multiple_2 rfl (lv_at hl 0 rfl) ?_
  refine lv_iload_n hx hb d_La_multiple_3 rfl (lv_at hl 1 rfl) ?_
  refine lv_iload_n hx hb d_La_multiple_4 rfl (lv_at hl 2 rfl) ?_
  have hpre : ∀ z ∈ ([⟨0, 10, 13, 13⟩, ⟨0, 10, 17, 22⟩] : List ExceptionTableEntry), covers z 5 = true ∧ z.catchType ≠ 0 ∧ ∃ E', Cond.classLink R_La z.catchType E' ∈ lw_G ∧ (Cond.not (.castable sNSE E')).before (pA K) (pZ K) = true := (List.forall_mem_cons.mpr ⟨⟨by decide, by decide, _, w_cl_La_13, nc_NSE_IAE K hZ⟩, (List.forall_mem_cons.mpr ⟨⟨by decide, by decide, _, w_cl_La_22, nc_NSE_ISE K hZ⟩, (fun _ h => absurd h List.not_mem_nil)⟩)⟩)
  refine pw_callVH X hS (As := [.int p0, .int p1]) (rest := [.int 0, .ref oa]) hM hz w_cd_D_multiple w_ini_D w_ml_La_35 w_im_D_multiple w_se_D_multiple hx0 rfl hd_D_multiple rfl hl.1 (Nat.le_of_ble_eq_true rfl) d_La_multiple_5 ⟨by show d + 1 ≤ d + 1; omega, by show 8 + (4 + 11) + 64 * d ≤ 64 * (d + 1); omega⟩ ⟨show 0 + mc ≤ mc by omega, show 0 + ms ≤ ms by omega⟩ [⟨0, 10, 13, 13⟩, ⟨0, 10, 17, 22⟩] ⟨0, 10, 21, 39⟩ [] htb ⟨by decide, by decide, w_cl_La_39⟩ (ca_NSE K hZ).1 (ca_NSE K hZ).2 hpre (fun xe f1 H1 lc1 hp hS1 => ?_)
  refine lv_astore (lv' := [(4, .ref xe), (0, .ref xa), (1, .int p0), (2, .int p1), (3, .ref oa)]) hx hb d_La_multiple_21 hl (by decide) rfl (fun ls hl => ?_)
  refine lv_iconst (v := 3) hx hb d_La_multiple_23 (by decide) ?_
  exact pw_iret X hS1 hr ⟨rfl, hp⟩ (show 0 + mc ≤ mc by omega) (show 0 + ms ≤ ms by omega) d_La_multiple_24
set_option maxHeartbeats 4000000 in
set_option maxRecDepth 100000 in
theorem v_La_multiple (l : Launch) (K : pw_K) (f : pw_F) (xa oa sz d mc ms : Nat) (p0 : Int32) (p1 : Int32) (r : Int32) {fs : List Value} (hx0 : f xa = some (.inr (10, fs))) {post : pw_F → Nat → Prop} (hM : pw_C l K y_D_multiple b_D_multiple 4 (some .int) (rmk d mc ms) f [.ref xa, .int p0, .int p1] sz (fun v f2 z => v = some (.int r) ∧ post f2 z)) (ho : ∀ f2 z, post f2 z → ∃ go : Nat → Int64, f2 oa = some (.inl (pE K 1, 1, .inr (.inl go)))) : pw_W l K y_La_multiple b_La_multiple 5 (some .int) [(0, 10, 13, 13), (0, 10, 17, 22), (0, 10, 21, 39)] (rmk (d + 1) mc ms) f [.ref xa, .int p0, .int p1, .ref oa] sz (fun v f2 z => v = some (.int 0) ∧ ∃ (f1 : pw_F) (go : Nat → Int64), post f1 z ∧ go 0 = r.toInt64 ∧ f2 = pw_up f1 oa (.inl (pE K 1, 1, .inr (.inl go)))) := by
  refine pw_startW (by decide) (Nat.le_of_ble_eq_true rfl) ?_
  intro p e s m args below meth c ls X htab hr hz hS hl
  have hl : lv_has ls 5 [(0, .ref xa), (1, .int p0), (2, .int p1), (3, .ref oa)] := hl
  have htb := tb_of htab
  have hZ := X.2.2.2.2.2.2.2.1
  have hx := X.1
  have hb := X.2.1
  generalize s.heap = H0 at hz hS ⊢
  generalize ([] : List Loc) = lc0 at hS ⊢
  refine lv_aload_n hx hb d_La_multiple_0 rfl (lv_at hl 3 rfl) ?_
  refine lv_iconst (v := 0) hx hb d_La_multiple_1 (by decide) ?_
  refine lv_aload_n hx hb d_La_multiple_2 rfl (lv_at hl 0 rfl) ?_
  refine lv_iload_n hx hb d_La_multiple_3 rfl (lv_at hl 1 rfl) ?_
  refine lv_iload_n hx hb d_La_multiple_4 rfl (lv_at hl 2 rfl) ?_
  refine pw_callV X hS (As := [.int p0, .int p1]) (rest := [.int 0, .ref oa]) hM hz w_cd_D_multiple w_ini_D w_ml_La_35 w_im_D_multiple w_se_D_multiple hx0 rfl hd_D_multiple rfl hl.1 (Nat.le_of_ble_eq_true rfl) d_La_multiple_5 ⟨by show d + 1 ≤ d + 1; omega, by show 8 + (4 + 11) + 64 * d ≤ 64 * (d + 1); omega⟩ ⟨show 0 + mc ≤ mc by omega, show 0 + ms ≤ ms by omega⟩ (fun v f1 H1 lc1 hp hS1 => ?_)
  obtain ⟨rfl, hp⟩ := hp
  obtain ⟨go, ho1⟩ := ho _ _ hp
  refine lv_i2l hx hb d_La_multiple_8 rfl ?_
  refine pw_lst X hS1 ho1 (vp_in_nI (n := 0) (by decide) (by decide)) d_La_multiple_9 (fun H2 lc2 hy hS2 => ?_)
  refine lv_goto (tgt := 25) hx hb d_La_multiple_10 (by decide) ?_
  refine lv_iconst (v := 0) hx hb d_La_multiple_25 (by decide) ?_
  exact pw_iret X hS2 hr ⟨rfl, f1, _, by rw [hy]; exact hp, if_pos rfl, rfl⟩ (show 0 + mc ≤ mc by omega) (show 0 + ms ≤ ms by omega) d_La_multiple_26
theorem d_La_side_0 : decode b_La_side 0 = .ok (.aload 6, 2) := by decide +kernel
theorem d_La_side_2 : decode b_La_side 2 = .ok (.iconst 0, 1) := by decide +kernel
theorem d_La_side_3 : decode b_La_side 3 = .ok (.aload_n 0, 1) := by decide +kernel
theorem d_La_side_4 : decode b_La_side 4 = .ok (.iload_n 1, 1) := by decide +kernel
theorem d_La_side_5 : decode b_La_side 5 = .ok (.iload_n 2, 1) := by decide +kernel
theorem d_La_side_6 : decode b_La_side 6 = .ok (.lload_n 3, 1) := by decide +kernel
theorem d_La_side_7 : decode b_La_side 7 = .ok (.iload 5, 2) := by decide +kernel
theorem d_La_side_9 : decode b_La_side 9 = .ok (.invokevirtual 41, 3) := by decide +kernel
theorem d_La_side_12 : decode b_La_side 12 = .ok (.i2l, 1) := by decide +kernel
theorem d_La_side_13 : decode b_La_side 13 = .ok (.lastore, 1) := by decide +kernel
theorem d_La_side_14 : decode b_La_side 14 = .ok (.goto 15, 3) := by decide +kernel
theorem d_La_side_17 : decode b_La_side 17 = .ok (.astore 7, 2) := by decide +kernel
theorem d_La_side_19 : decode b_La_side 19 = .ok (.iconst 1, 1) := by decide +kernel
theorem d_La_side_20 : decode b_La_side 20 = .ok (.ireturn, 1) := by decide +kernel
theorem d_La_side_21 : decode b_La_side 21 = .ok (.astore 7, 2) := by decide +kernel
theorem d_La_side_23 : decode b_La_side 23 = .ok (.iconst 2, 1) := by decide +kernel
theorem d_La_side_24 : decode b_La_side 24 = .ok (.ireturn, 1) := by decide +kernel
theorem d_La_side_25 : decode b_La_side 25 = .ok (.astore 7, 2) := by decide +kernel
theorem d_La_side_27 : decode b_La_side 27 = .ok (.iconst 3, 1) := by decide +kernel
theorem d_La_side_28 : decode b_La_side 28 = .ok (.ireturn, 1) := by decide +kernel
theorem d_La_side_29 : decode b_La_side 29 = .ok (.iconst 0, 1) := by decide +kernel
theorem d_La_side_30 : decode b_La_side 30 = .ok (.ireturn, 1) := by decide +kernel
set_option maxHeartbeats 4000000 in
set_option maxRecDepth 100000 in
theorem v_La_side_IAE (l : Launch) (K : pw_K) (f : pw_F) (xa oa sz d mc ms : Nat) (p0 : Int32) (p1 : Int32) (q2 : Int64) (p3 : Int32) {fs : List Value} (hx0 : f xa = some (.inr (10, fs))) {post : pw_F → Prop} (hM : pw_T l K y_D_side b_D_side 7 (some .int) (rmk d mc ms) f [.ref xa, .int p0, .int p1, .long q2, .int p3] sz sIAE post) : pw_W l K y_La_side b_La_side 8 (some .int) [(0, 14, 17, 13), (0, 14, 21, 22), (0, 14, 25, 39)] (rmk (d + 1) mc ms) f [.ref xa, .int p0, .int p1, .long q2, .int p3, .ref oa] sz (fun v f2 z => v = some (.int 1) ∧ post f2) := by
  refine pw_startW (by decide) (Nat.le_of_ble_eq_true rfl) ?_
  intro p e s m args below meth c ls X htab hr hz hS hl
  have hl : lv_has ls 8 [(0, .ref xa), (1, .int p0), (2, .int p1), (3, .long q2), (5, .int p3), (6, .ref oa)] := hl
  have htb := tb_of htab
  have hZ := X.2.2.2.2.2.2.2.1
  have hx := X.1
  have hb := X.2.1
  generalize s.heap = H0 at hz hS ⊢
  generalize ([] : List Loc) = lc0 at hS ⊢
  refine lv_aload hx hb d_La_side_0 (lv_at hl 5 rfl) ?_
  refine lv_iconst (v := 0) hx hb d_La_side_2 (by decide) ?_
  refine lv_aload_n hx hb d_La_side_3 rfl (lv_at hl 0 rfl) ?_
  refine lv_iload_n hx hb d_La_side_4 rfl (lv_at hl 1 rfl) ?_
  refine lv_iload_n hx hb d_La_side_5 rfl (lv_at hl 2 rfl) ?_
  refine lv_lload_n hx hb d_La_side_6 rfl (lv_at hl 3 rfl) ?_
  refine lv_iload hx hb d_La_side_7 (lv_at hl 4 rfl) ?_
  have hpre : ∀ z ∈ ([] : List ExceptionTableEntry), covers z 9 = true ∧ z.catchType ≠ 0 ∧ ∃ E', Cond.classLink R_La z.catchType E' ∈ lw_G ∧ (Cond.not (.castable sIAE E')).before (pA K) (pZ K) = true := (fun _ h => absurd h List.not_mem_nil)
  refine pw_callVH X hS (As := [.int p0, .int p1, .long q2, .int p3]) (rest := [.int 0, .ref oa]) hM hz w_cd_D_side w_ini_D w_ml_La_41 w_im_D_side w_se_D_side hx0 rfl hd_D_side rfl hl.1 (Nat.le_of_ble_eq_true rfl) d_La_side_9 ⟨by show d + 1 ≤ d + 1; omega, by show 8 + (7 + 11) + 64 * d ≤ 64 * (d + 1); omega⟩ ⟨show 0 + mc ≤ mc by omega, show 0 + ms ≤ ms by omega⟩ [] ⟨0, 14, 17, 13⟩ [⟨0, 14, 21, 22⟩, ⟨0, 14, 25, 39⟩] htb ⟨by decide, by decide, w_cl_La_13⟩ (ca_IAE K hZ).1 (ca_IAE K hZ).2 hpre (fun xe f1 H1 lc1 hp hS1 => ?_)
  refine lv_astore (lv' := [(7, .ref xe), (0, .ref xa), (1, .int p0), (2, .int p1), (3, .long q2), (5, .int p3), (6, .ref oa)]) hx hb d_La_side_17 hl (by decide) rfl (fun ls hl => ?_)
  refine lv_iconst (v := 1) hx hb d_La_side_19 (by decide) ?_
  exact pw_iret X hS1 hr ⟨rfl, hp⟩ (show 0 + mc ≤ mc by omega) (show 0 + ms ≤ ms by omega) d_La_side_20
set_option maxHeartbeats 4000000 in
set_option maxRecDepth 100000 in
theorem v_La_side_ISE (l : Launch) (K : pw_K) (f : pw_F) (xa oa sz d mc ms : Nat) (p0 : Int32) (p1 : Int32) (q2 : Int64) (p3 : Int32) {fs : List Value} (hx0 : f xa = some (.inr (10, fs))) {post : pw_F → Prop} (hM : pw_T l K y_D_side b_D_side 7 (some .int) (rmk d mc ms) f [.ref xa, .int p0, .int p1, .long q2, .int p3] sz sISE post) : pw_W l K y_La_side b_La_side 8 (some .int) [(0, 14, 17, 13), (0, 14, 21, 22), (0, 14, 25, 39)] (rmk (d + 1) mc ms) f [.ref xa, .int p0, .int p1, .long q2, .int p3, .ref oa] sz (fun v f2 z => v = some (.int 2) ∧ post f2) := by
  refine pw_startW (by decide) (Nat.le_of_ble_eq_true rfl) ?_
  intro p e s m args below meth c ls X htab hr hz hS hl
  have hl : lv_has ls 8 [(0, .ref xa), (1, .int p0), (2, .int p1), (3, .long q2), (5, .int p3), (6, .ref oa)] := hl
  have htb := tb_of htab
  have hZ := X.2.2.2.2.2.2.2.1
  have hx := X.1
  have hb := X.2.1
  generalize s.heap = H0 at hz hS ⊢
  generalize ([] : List Loc) = lc0 at hS ⊢
  refine lv_aload hx hb d_La_side_0 (lv_at hl 5 rfl) ?_
  refine lv_iconst (v := 0) hx hb d_La_side_2 (by decide) ?_
  refine lv_aload_n hx hb d_La_side_3 rfl (lv_at hl 0 rfl) ?_
  refine lv_iload_n hx hb d_La_side_4 rfl (lv_at hl 1 rfl) ?_
  refine lv_iload_n hx hb d_La_side_5 rfl (lv_at hl 2 rfl) ?_
  refine lv_lload_n hx hb d_La_side_6 rfl (lv_at hl 3 rfl) ?_
  refine lv_iload hx hb d_La_side_7 (lv_at hl 4 rfl) ?_
  have hpre : ∀ z ∈ ([⟨0, 14, 17, 13⟩] : List ExceptionTableEntry), covers z 9 = true ∧ z.catchType ≠ 0 ∧ ∃ E', Cond.classLink R_La z.catchType E' ∈ lw_G ∧ (Cond.not (.castable sISE E')).before (pA K) (pZ K) = true := (List.forall_mem_cons.mpr ⟨⟨by decide, by decide, _, w_cl_La_13, nc_ISE_IAE K hZ⟩, (fun _ h => absurd h List.not_mem_nil)⟩)
  refine pw_callVH X hS (As := [.int p0, .int p1, .long q2, .int p3]) (rest := [.int 0, .ref oa]) hM hz w_cd_D_side w_ini_D w_ml_La_41 w_im_D_side w_se_D_side hx0 rfl hd_D_side rfl hl.1 (Nat.le_of_ble_eq_true rfl) d_La_side_9 ⟨by show d + 1 ≤ d + 1; omega, by show 8 + (7 + 11) + 64 * d ≤ 64 * (d + 1); omega⟩ ⟨show 0 + mc ≤ mc by omega, show 0 + ms ≤ ms by omega⟩ [⟨0, 14, 17, 13⟩] ⟨0, 14, 21, 22⟩ [⟨0, 14, 25, 39⟩] htb ⟨by decide, by decide, w_cl_La_22⟩ (ca_ISE K hZ).1 (ca_ISE K hZ).2 hpre (fun xe f1 H1 lc1 hp hS1 => ?_)
  refine lv_astore (lv' := [(7, .ref xe), (0, .ref xa), (1, .int p0), (2, .int p1), (3, .long q2), (5, .int p3), (6, .ref oa)]) hx hb d_La_side_21 hl (by decide) rfl (fun ls hl => ?_)
  refine lv_iconst (v := 2) hx hb d_La_side_23 (by decide) ?_
  exact pw_iret X hS1 hr ⟨rfl, hp⟩ (show 0 + mc ≤ mc by omega) (show 0 + ms ≤ ms by omega) d_La_side_24
set_option maxHeartbeats 4000000 in
set_option maxRecDepth 100000 in
theorem v_La_side_NSE (l : Launch) (K : pw_K) (f : pw_F) (xa oa sz d mc ms : Nat) (p0 : Int32) (p1 : Int32) (q2 : Int64) (p3 : Int32) {fs : List Value} (hx0 : f xa = some (.inr (10, fs))) {post : pw_F → Prop} (hM : pw_T l K y_D_side b_D_side 7 (some .int) (rmk d mc ms) f [.ref xa, .int p0, .int p1, .long q2, .int p3] sz sNSE post) : pw_W l K y_La_side b_La_side 8 (some .int) [(0, 14, 17, 13), (0, 14, 21, 22), (0, 14, 25, 39)] (rmk (d + 1) mc ms) f [.ref xa, .int p0, .int p1, .long q2, .int p3, .ref oa] sz (fun v f2 z => v = some (.int 3) ∧ post f2) := by
  refine pw_startW (by decide) (Nat.le_of_ble_eq_true rfl) ?_
  intro p e s m args below meth c ls X htab hr hz hS hl
  have hl : lv_has ls 8 [(0, .ref xa), (1, .int p0), (2, .int p1), (3, .long q2), (5, .int p3), (6, .ref oa)] := hl
  have htb := tb_of htab
  have hZ := X.2.2.2.2.2.2.2.1
  have hx := X.1
  have hb := X.2.1
  generalize s.heap = H0 at hz hS ⊢
  generalize ([] : List Loc) = lc0 at hS ⊢
  refine lv_aload hx hb d_La_side_0 (lv_at hl 5 rfl) ?_
  refine lv_iconst (v := 0) hx hb d_La_side_2 (by decide) ?_
  refine lv_aload_n hx hb d_La_side_3 rfl (lv_at hl 0 rfl) ?_
  refine lv_iload_n hx hb d_La_side_4 rfl (lv_at hl 1 rfl) ?_
  refine lv_iload_n hx hb d_La_side_5 rfl (lv_at hl 2 rfl) ?_
  refine lv_lload_n hx hb d_La_side_6 rfl (lv_at hl 3 rfl) ?_
  refine lv_iload hx hb d_La_side_7 (lv_at hl 4 rfl) ?_
  have hpre : ∀ z ∈ ([⟨0, 14, 17, 13⟩, ⟨0, 14, 21, 22⟩] : List ExceptionTableEntry), covers z 9 = true ∧ z.catchType ≠ 0 ∧ ∃ E', Cond.classLink R_La z.catchType E' ∈ lw_G ∧ (Cond.not (.castable sNSE E')).before (pA K) (pZ K) = true := (List.forall_mem_cons.mpr ⟨⟨by decide, by decide, _, w_cl_La_13, nc_NSE_IAE K hZ⟩, (List.forall_mem_cons.mpr ⟨⟨by decide, by decide, _, w_cl_La_22, nc_NSE_ISE K hZ⟩, (fun _ h => absurd h List.not_mem_nil)⟩)⟩)
  refine pw_callVH X hS (As := [.int p0, .int p1, .long q2, .int p3]) (rest := [.int 0, .ref oa]) hM hz w_cd_D_side w_ini_D w_ml_La_41 w_im_D_side w_se_D_side hx0 rfl hd_D_side rfl hl.1 (Nat.le_of_ble_eq_true rfl) d_La_side_9 ⟨by show d + 1 ≤ d + 1; omega, by show 8 + (7 + 11) + 64 * d ≤ 64 * (d + 1); omega⟩ ⟨show 0 + mc ≤ mc by omega, show 0 + ms ≤ ms by omega⟩ [⟨0, 14, 17, 13⟩, ⟨0, 14, 21, 22⟩] ⟨0, 14, 25, 39⟩ [] htb ⟨by decide, by decide, w_cl_La_39⟩ (ca_NSE K hZ).1 (ca_NSE K hZ).2 hpre (fun xe f1 H1 lc1 hp hS1 => ?_)
  refine lv_astore (lv' := [(7, .ref xe), (0, .ref xa), (1, .int p0), (2, .int p1), (3, .long q2), (5, .int p3), (6, .ref oa)]) hx hb d_La_side_25 hl (by decide) rfl (fun ls hl => ?_)
  refine lv_iconst (v := 3) hx hb d_La_side_27 (by decide) ?_
  exact pw_iret X hS1 hr ⟨rfl, hp⟩ (show 0 + mc ≤ mc by omega) (show 0 + ms ≤ ms by omega) d_La_side_28
set_option maxHeartbeats 4000000 in
set_option maxRecDepth 100000 in
theorem v_La_side (l : Launch) (K : pw_K) (f : pw_F) (xa oa sz d mc ms : Nat) (p0 : Int32) (p1 : Int32) (q2 : Int64) (p3 : Int32) (r : Int32) {fs : List Value} (hx0 : f xa = some (.inr (10, fs))) {post : pw_F → Nat → Prop} (hM : pw_C l K y_D_side b_D_side 7 (some .int) (rmk d mc ms) f [.ref xa, .int p0, .int p1, .long q2, .int p3] sz (fun v f2 z => v = some (.int r) ∧ post f2 z)) (ho : ∀ f2 z, post f2 z → ∃ go : Nat → Int64, f2 oa = some (.inl (pE K 1, 1, .inr (.inl go)))) : pw_W l K y_La_side b_La_side 8 (some .int) [(0, 14, 17, 13), (0, 14, 21, 22), (0, 14, 25, 39)] (rmk (d + 1) mc ms) f [.ref xa, .int p0, .int p1, .long q2, .int p3, .ref oa] sz (fun v f2 z => v = some (.int 0) ∧ ∃ (f1 : pw_F) (go : Nat → Int64), post f1 z ∧ go 0 = r.toInt64 ∧ f2 = pw_up f1 oa (.inl (pE K 1, 1, .inr (.inl go)))) := by
  refine pw_startW (by decide) (Nat.le_of_ble_eq_true rfl) ?_
  intro p e s m args below meth c ls X htab hr hz hS hl
  have hl : lv_has ls 8 [(0, .ref xa), (1, .int p0), (2, .int p1), (3, .long q2), (5, .int p3), (6, .ref oa)] := hl
  have htb := tb_of htab
  have hZ := X.2.2.2.2.2.2.2.1
  have hx := X.1
  have hb := X.2.1
  generalize s.heap = H0 at hz hS ⊢
  generalize ([] : List Loc) = lc0 at hS ⊢
  refine lv_aload hx hb d_La_side_0 (lv_at hl 5 rfl) ?_
  refine lv_iconst (v := 0) hx hb d_La_side_2 (by decide) ?_
  refine lv_aload_n hx hb d_La_side_3 rfl (lv_at hl 0 rfl) ?_
  refine lv_iload_n hx hb d_La_side_4 rfl (lv_at hl 1 rfl) ?_
  refine lv_iload_n hx hb d_La_side_5 rfl (lv_at hl 2 rfl) ?_
  refine lv_lload_n hx hb d_La_side_6 rfl (lv_at hl 3 rfl) ?_
  refine lv_iload hx hb d_La_side_7 (lv_at hl 4 rfl) ?_
  refine pw_callV X hS (As := [.int p0, .int p1, .long q2, .int p3]) (rest := [.int 0, .ref oa]) hM hz w_cd_D_side w_ini_D w_ml_La_41 w_im_D_side w_se_D_side hx0 rfl hd_D_side rfl hl.1 (Nat.le_of_ble_eq_true rfl) d_La_side_9 ⟨by show d + 1 ≤ d + 1; omega, by show 8 + (7 + 11) + 64 * d ≤ 64 * (d + 1); omega⟩ ⟨show 0 + mc ≤ mc by omega, show 0 + ms ≤ ms by omega⟩ (fun v f1 H1 lc1 hp hS1 => ?_)
  obtain ⟨rfl, hp⟩ := hp
  obtain ⟨go, ho1⟩ := ho _ _ hp
  refine lv_i2l hx hb d_La_side_12 rfl ?_
  refine pw_lst X hS1 ho1 (vp_in_nI (n := 0) (by decide) (by decide)) d_La_side_13 (fun H2 lc2 hy hS2 => ?_)
  refine lv_goto (tgt := 29) hx hb d_La_side_14 (by decide) ?_
  refine lv_iconst (v := 0) hx hb d_La_side_29 (by decide) ?_
  exact pw_iret X hS2 hr ⟨rfl, f1, _, by rw [hy]; exact hp, if_pos rfl, rfl⟩ (show 0 + mc ≤ mc by omega) (show 0 + ms ≤ ms by omega) d_La_side_30
theorem d_La_floor_0 : decode b_La_floor 0 = .ok (.aload 5, 2) := by decide +kernel
theorem d_La_floor_2 : decode b_La_floor 2 = .ok (.iconst 0, 1) := by decide +kernel
theorem d_La_floor_3 : decode b_La_floor 3 = .ok (.aload_n 0, 1) := by decide +kernel
theorem d_La_floor_4 : decode b_La_floor 4 = .ok (.iload_n 1, 1) := by decide +kernel
theorem d_La_floor_5 : decode b_La_floor 5 = .ok (.iload_n 2, 1) := by decide +kernel
theorem d_La_floor_6 : decode b_La_floor 6 = .ok (.iload_n 3, 1) := by decide +kernel
theorem d_La_floor_7 : decode b_La_floor 7 = .ok (.iload 4, 2) := by decide +kernel
theorem d_La_floor_9 : decode b_La_floor 9 = .ok (.invokevirtual 45, 3) := by decide +kernel
theorem d_La_floor_12 : decode b_La_floor 12 = .ok (.i2l, 1) := by decide +kernel
theorem d_La_floor_13 : decode b_La_floor 13 = .ok (.lastore, 1) := by decide +kernel
theorem d_La_floor_14 : decode b_La_floor 14 = .ok (.goto 15, 3) := by decide +kernel
theorem d_La_floor_17 : decode b_La_floor 17 = .ok (.astore 6, 2) := by decide +kernel
theorem d_La_floor_19 : decode b_La_floor 19 = .ok (.iconst 1, 1) := by decide +kernel
theorem d_La_floor_20 : decode b_La_floor 20 = .ok (.ireturn, 1) := by decide +kernel
theorem d_La_floor_21 : decode b_La_floor 21 = .ok (.astore 6, 2) := by decide +kernel
theorem d_La_floor_23 : decode b_La_floor 23 = .ok (.iconst 2, 1) := by decide +kernel
theorem d_La_floor_24 : decode b_La_floor 24 = .ok (.ireturn, 1) := by decide +kernel
theorem d_La_floor_25 : decode b_La_floor 25 = .ok (.astore 6, 2) := by decide +kernel
theorem d_La_floor_27 : decode b_La_floor 27 = .ok (.iconst 3, 1) := by decide +kernel
theorem d_La_floor_28 : decode b_La_floor 28 = .ok (.ireturn, 1) := by decide +kernel
theorem d_La_floor_29 : decode b_La_floor 29 = .ok (.iconst 0, 1) := by decide +kernel
theorem d_La_floor_30 : decode b_La_floor 30 = .ok (.ireturn, 1) := by decide +kernel
set_option maxHeartbeats 4000000 in
set_option maxRecDepth 100000 in
theorem v_La_floor_IAE (l : Launch) (K : pw_K) (f : pw_F) (xa oa sz d mc ms : Nat) (p0 : Int32) (p1 : Int32) (p2 : Int32) (p3 : Int32) {fs : List Value} (hx0 : f xa = some (.inr (10, fs))) {post : pw_F → Prop} (hM : pw_T l K y_D_floor b_D_floor 7 (some .int) (rmk d mc ms) f [.ref xa, .int p0, .int p1, .int p2, .int p3] sz sIAE post) : pw_W l K y_La_floor b_La_floor 7 (some .int) [(0, 14, 17, 13), (0, 14, 21, 22), (0, 14, 25, 39)] (rmk (d + 1) mc ms) f [.ref xa, .int p0, .int p1, .int p2, .int p3, .ref oa] sz (fun v f2 z => v = some (.int 1) ∧ post f2) := by
  refine pw_startW (by decide) (Nat.le_of_ble_eq_true rfl) ?_
  intro p e s m args below meth c ls X htab hr hz hS hl
  have hl : lv_has ls 7 [(0, .ref xa), (1, .int p0), (2, .int p1), (3, .int p2), (4, .int p3), (5, .ref oa)] := hl
  have htb := tb_of htab
  have hZ := X.2.2.2.2.2.2.2.1
  have hx := X.1
  have hb := X.2.1
  generalize s.heap = H0 at hz hS ⊢
  generalize ([] : List Loc) = lc0 at hS ⊢
  refine lv_aload hx hb d_La_floor_0 (lv_at hl 5 rfl) ?_
  refine lv_iconst (v := 0) hx hb d_La_floor_2 (by decide) ?_
  refine lv_aload_n hx hb d_La_floor_3 rfl (lv_at hl 0 rfl) ?_
  refine lv_iload_n hx hb d_La_floor_4 rfl (lv_at hl 1 rfl) ?_
  refine lv_iload_n hx hb d_La_floor_5 rfl (lv_at hl 2 rfl) ?_
  refine lv_iload_n hx hb d_La_floor_6 rfl (lv_at hl 3 rfl) ?_
  refine lv_iload hx hb d_La_floor_7 (lv_at hl 4 rfl) ?_
  have hpre : ∀ z ∈ ([] : List ExceptionTableEntry), covers z 9 = true ∧ z.catchType ≠ 0 ∧ ∃ E', Cond.classLink R_La z.catchType E' ∈ lw_G ∧ (Cond.not (.castable sIAE E')).before (pA K) (pZ K) = true := (fun _ h => absurd h List.not_mem_nil)
  refine pw_callVH X hS (As := [.int p0, .int p1, .int p2, .int p3]) (rest := [.int 0, .ref oa]) hM hz w_cd_D_floor w_ini_D w_ml_La_45 w_im_D_floor w_se_D_floor hx0 rfl hd_D_floor rfl hl.1 (Nat.le_of_ble_eq_true rfl) d_La_floor_9 ⟨by show d + 1 ≤ d + 1; omega, by show 8 + (7 + 11) + 64 * d ≤ 64 * (d + 1); omega⟩ ⟨show 0 + mc ≤ mc by omega, show 0 + ms ≤ ms by omega⟩ [] ⟨0, 14, 17, 13⟩ [⟨0, 14, 21, 22⟩, ⟨0, 14, 25, 39⟩] htb ⟨by decide, by decide, w_cl_La_13⟩ (ca_IAE K hZ).1 (ca_IAE K hZ).2 hpre (fun xe f1 H1 lc1 hp hS1 => ?_)
  refine lv_astore (lv' := [(6, .ref xe), (0, .ref xa), (1, .int p0), (2, .int p1), (3, .int p2), (4, .int p3), (5, .ref oa)]) hx hb d_La_floor_17 hl (by decide) rfl (fun ls hl => ?_)
  refine lv_iconst (v := 1) hx hb d_La_floor_19 (by decide) ?_
  exact pw_iret X hS1 hr ⟨rfl, hp⟩ (show 0 + mc ≤ mc by omega) (show 0 + ms ≤ ms by omega) d_La_floor_20
set_option maxHeartbeats 4000000 in
set_option maxRecDepth 100000 in
theorem v_La_floor_ISE (l : Launch) (K : pw_K) (f : pw_F) (xa oa sz d mc ms : Nat) (p0 : Int32) (p1 : Int32) (p2 : Int32) (p3 : Int32) {fs : List Value} (hx0 : f xa = some (.inr (10, fs))) {post : pw_F → Prop} (hM : pw_T l K y_D_floor b_D_floor 7 (some .int) (rmk d mc ms) f [.ref xa, .int p0, .int p1, .int p2, .int p3] sz sISE post) : pw_W l K y_La_floor b_La_floor 7 (some .int) [(0, 14, 17, 13), (0, 14, 21, 22), (0, 14, 25, 39)] (rmk (d + 1) mc ms) f [.ref xa, .int p0, .int p1, .int p2, .int p3, .ref oa] sz (fun v f2 z => v = some (.int 2) ∧ post f2) := by
  refine pw_startW (by decide) (Nat.le_of_ble_eq_true rfl) ?_
  intro p e s m args below meth c ls X htab hr hz hS hl
  have hl : lv_has ls 7 [(0, .ref xa), (1, .int p0), (2, .int p1), (3, .int p2), (4, .int p3), (5, .ref oa)] := hl
  have htb := tb_of htab
  have hZ := X.2.2.2.2.2.2.2.1
  have hx := X.1
  have hb := X.2.1
  generalize s.heap = H0 at hz hS ⊢
  generalize ([] : List Loc) = lc0 at hS ⊢
  refine lv_aload hx hb d_La_floor_0 (lv_at hl 5 rfl) ?_
  refine lv_iconst (v := 0) hx hb d_La_floor_2 (by decide) ?_
  refine lv_aload_n hx hb d_La_floor_3 rfl (lv_at hl 0 rfl) ?_
  refine lv_iload_n hx hb d_La_floor_4 rfl (lv_at hl 1 rfl) ?_
  refine lv_iload_n hx hb d_La_floor_5 rfl (lv_at hl 2 rfl) ?_
  refine lv_iload_n hx hb d_La_floor_6 rfl (lv_at hl 3 rfl) ?_
  refine lv_iload hx hb d_La_floor_7 (lv_at hl 4 rfl) ?_
  have hpre : ∀ z ∈ ([⟨0, 14, 17, 13⟩] : List ExceptionTableEntry), covers z 9 = true ∧ z.catchType ≠ 0 ∧ ∃ E', Cond.classLink R_La z.catchType E' ∈ lw_G ∧ (Cond.not (.castable sISE E')).before (pA K) (pZ K) = true := (List.forall_mem_cons.mpr ⟨⟨by decide, by decide, _, w_cl_La_13, nc_ISE_IAE K hZ⟩, (fun _ h => absurd h List.not_mem_nil)⟩)
  refine pw_callVH X hS (As := [.int p0, .int p1, .int p2, .int p3]) (rest := [.int 0, .ref oa]) hM hz w_cd_D_floor w_ini_D w_ml_La_45 w_im_D_floor w_se_D_floor hx0 rfl hd_D_floor rfl hl.1 (Nat.le_of_ble_eq_true rfl) d_La_floor_9 ⟨by show d + 1 ≤ d + 1; omega, by show 8 + (7 + 11) + 64 * d ≤ 64 * (d + 1); omega⟩ ⟨show 0 + mc ≤ mc by omega, show 0 + ms ≤ ms by omega⟩ [⟨0, 14, 17, 13⟩] ⟨0, 14, 21, 22⟩ [⟨0, 14, 25, 39⟩] htb ⟨by decide, by decide, w_cl_La_22⟩ (ca_ISE K hZ).1 (ca_ISE K hZ).2 hpre (fun xe f1 H1 lc1 hp hS1 => ?_)
  refine lv_astore (lv' := [(6, .ref xe), (0, .ref xa), (1, .int p0), (2, .int p1), (3, .int p2), (4, .int p3), (5, .ref oa)]) hx hb d_La_floor_21 hl (by decide) rfl (fun ls hl => ?_)
  refine lv_iconst (v := 2) hx hb d_La_floor_23 (by decide) ?_
  exact pw_iret X hS1 hr ⟨rfl, hp⟩ (show 0 + mc ≤ mc by omega) (show 0 + ms ≤ ms by omega) d_La_floor_24
set_option maxHeartbeats 4000000 in
set_option maxRecDepth 100000 in
theorem v_La_floor_NSE (l : Launch) (K : pw_K) (f : pw_F) (xa oa sz d mc ms : Nat) (p0 : Int32) (p1 : Int32) (p2 : Int32) (p3 : Int32) {fs : List Value} (hx0 : f xa = some (.inr (10, fs))) {post : pw_F → Prop} (hM : pw_T l K y_D_floor b_D_floor 7 (some .int) (rmk d mc ms) f [.ref xa, .int p0, .int p1, .int p2, .int p3] sz sNSE post) : pw_W l K y_La_floor b_La_floor 7 (some .int) [(0, 14, 17, 13), (0, 14, 21, 22), (0, 14, 25, 39)] (rmk (d + 1) mc ms) f [.ref xa, .int p0, .int p1, .int p2, .int p3, .ref oa] sz (fun v f2 z => v = some (.int 3) ∧ post f2) := by
  refine pw_startW (by decide) (Nat.le_of_ble_eq_true rfl) ?_
  intro p e s m args below meth c ls X htab hr hz hS hl
  have hl : lv_has ls 7 [(0, .ref xa), (1, .int p0), (2, .int p1), (3, .int p2), (4, .int p3), (5, .ref oa)] := hl
  have htb := tb_of htab
  have hZ := X.2.2.2.2.2.2.2.1
  have hx := X.1
  have hb := X.2.1
  generalize s.heap = H0 at hz hS ⊢
  generalize ([] : List Loc) = lc0 at hS ⊢
  refine lv_aload hx hb d_La_floor_0 (lv_at hl 5 rfl) ?_
  refine lv_iconst (v := 0) hx hb d_La_floor_2 (by decide) ?_
  refine lv_aload_n hx hb d_La_floor_3 rfl (lv_at hl 0 rfl) ?_
  refine lv_iload_n hx hb d_La_floor_4 rfl (lv_at hl 1 rfl) ?_
  refine lv_iload_n hx hb d_La_floor_5 rfl (lv_at hl 2 rfl) ?_
  refine lv_iload_n hx hb d_La_floor_6 rfl (lv_at hl 3 rfl) ?_
  refine lv_iload hx hb d_La_floor_7 (lv_at hl 4 rfl) ?_
  have hpre : ∀ z ∈ ([⟨0, 14, 17, 13⟩, ⟨0, 14, 21, 22⟩] : List ExceptionTableEntry), covers z 9 = true ∧ z.catchType ≠ 0 ∧ ∃ E', Cond.classLink R_La z.catchType E' ∈ lw_G ∧ (Cond.not (.castable sNSE E')).before (pA K) (pZ K) = true := (List.forall_mem_cons.mpr ⟨⟨by decide, by decide, _, w_cl_La_13, nc_NSE_IAE K hZ⟩, (List.forall_mem_cons.mpr ⟨⟨by decide, by decide, _, w_cl_La_22, nc_NSE_ISE K hZ⟩, (fun _ h => absurd h List.not_mem_nil)⟩)⟩)
  refine pw_callVH X hS (As := [.int p0, .int p1, .int p2, .int p3]) (rest := [.int 0, .ref oa]) hM hz w_cd_D_floor w_ini_D w_ml_La_45 w_im_D_floor w_se_D_floor hx0 rfl hd_D_floor rfl hl.1 (Nat.le_of_ble_eq_true rfl) d_La_floor_9 ⟨by show d + 1 ≤ d + 1; omega, by show 8 + (7 + 11) + 64 * d ≤ 64 * (d + 1); omega⟩ ⟨show 0 + mc ≤ mc by omega, show 0 + ms ≤ ms by omega⟩ [⟨0, 14, 17, 13⟩, ⟨0, 14, 21, 22⟩] ⟨0, 14, 25, 39⟩ [] htb ⟨by decide, by decide, w_cl_La_39⟩ (ca_NSE K hZ).1 (ca_NSE K hZ).2 hpre (fun xe f1 H1 lc1 hp hS1 => ?_)
  refine lv_astore (lv' := [(6, .ref xe), (0, .ref xa), (1, .int p0), (2, .int p1), (3, .int p2), (4, .int p3), (5, .ref oa)]) hx hb d_La_floor_25 hl (by decide) rfl (fun ls hl => ?_)
  refine lv_iconst (v := 3) hx hb d_La_floor_27 (by decide) ?_
  exact pw_iret X hS1 hr ⟨rfl, hp⟩ (show 0 + mc ≤ mc by omega) (show 0 + ms ≤ ms by omega) d_La_floor_28
set_option maxHeartbeats 4000000 in
set_option maxRecDepth 100000 in
theorem v_La_floor (l : Launch) (K : pw_K) (f : pw_F) (xa oa sz d mc ms : Nat) (p0 : Int32) (p1 : Int32) (p2 : Int32) (p3 : Int32) (r : Int32) {fs : List Value} (hx0 : f xa = some (.inr (10, fs))) {post : pw_F → Nat → Prop} (hM : pw_C l K y_D_floor b_D_floor 7 (some .int) (rmk d mc ms) f [.ref xa, .int p0, .int p1, .int p2, .int p3] sz (fun v f2 z => v = some (.int r) ∧ post f2 z)) (ho : ∀ f2 z, post f2 z → ∃ go : Nat → Int64, f2 oa = some (.inl (pE K 1, 1, .inr (.inl go)))) : pw_W l K y_La_floor b_La_floor 7 (some .int) [(0, 14, 17, 13), (0, 14, 21, 22), (0, 14, 25, 39)] (rmk (d + 1) mc ms) f [.ref xa, .int p0, .int p1, .int p2, .int p3, .ref oa] sz (fun v f2 z => v = some (.int 0) ∧ ∃ (f1 : pw_F) (go : Nat → Int64), post f1 z ∧ go 0 = r.toInt64 ∧ f2 = pw_up f1 oa (.inl (pE K 1, 1, .inr (.inl go)))) := by
  refine pw_startW (by decide) (Nat.le_of_ble_eq_true rfl) ?_
  intro p e s m args below meth c ls X htab hr hz hS hl
  have hl : lv_has ls 7 [(0, .ref xa), (1, .int p0), (2, .int p1), (3, .int p2), (4, .int p3), (5, .ref oa)] := hl
  have htb := tb_of htab
  have hZ := X.2.2.2.2.2.2.2.1
  have hx := X.1
  have hb := X.2.1
  generalize s.heap = H0 at hz hS ⊢
  generalize ([] : List Loc) = lc0 at hS ⊢
  refine lv_aload hx hb d_La_floor_0 (lv_at hl 5 rfl) ?_
  refine lv_iconst (v := 0) hx hb d_La_floor_2 (by decide) ?_
  refine lv_aload_n hx hb d_La_floor_3 rfl (lv_at hl 0 rfl) ?_
  refine lv_iload_n hx hb d_La_floor_4 rfl (lv_at hl 1 rfl) ?_
  refine lv_iload_n hx hb d_La_floor_5 rfl (lv_at hl 2 rfl) ?_
  refine lv_iload_n hx hb d_La_floor_6 rfl (lv_at hl 3 rfl) ?_
  refine lv_iload hx hb d_La_floor_7 (lv_at hl 4 rfl) ?_
  refine pw_callV X hS (As := [.int p0, .int p1, .int p2, .int p3]) (rest := [.int 0, .ref oa]) hM hz w_cd_D_floor w_ini_D w_ml_La_45 w_im_D_floor w_se_D_floor hx0 rfl hd_D_floor rfl hl.1 (Nat.le_of_ble_eq_true rfl) d_La_floor_9 ⟨by show d + 1 ≤ d + 1; omega, by show 8 + (7 + 11) + 64 * d ≤ 64 * (d + 1); omega⟩ ⟨show 0 + mc ≤ mc by omega, show 0 + ms ≤ ms by omega⟩ (fun v f1 H1 lc1 hp hS1 => ?_)
  obtain ⟨rfl, hp⟩ := hp
  obtain ⟨go, ho1⟩ := ho _ _ hp
  refine lv_i2l hx hb d_La_floor_12 rfl ?_
  refine pw_lst X hS1 ho1 (vp_in_nI (n := 0) (by decide) (by decide)) d_La_floor_13 (fun H2 lc2 hy hS2 => ?_)
  refine lv_goto (tgt := 29) hx hb d_La_floor_14 (by decide) ?_
  refine lv_iconst (v := 0) hx hb d_La_floor_29 (by decide) ?_
  exact pw_iret X hS2 hr ⟨rfl, f1, _, by rw [hy]; exact hp, if_pos rfl, rfl⟩ (show 0 + mc ≤ mc by omega) (show 0 + ms ≤ ms by omega) d_La_floor_30
theorem d_La_apart_0 : decode b_La_apart 0 = .ok (.aload_n 2, 1) := by decide +kernel
theorem d_La_apart_1 : decode b_La_apart 1 = .ok (.iconst 0, 1) := by decide +kernel
theorem d_La_apart_2 : decode b_La_apart 2 = .ok (.aload_n 0, 1) := by decide +kernel
theorem d_La_apart_3 : decode b_La_apart 3 = .ok (.iload_n 1, 1) := by decide +kernel
theorem d_La_apart_4 : decode b_La_apart 4 = .ok (.invokevirtual 49, 3) := by decide +kernel
theorem d_La_apart_7 : decode b_La_apart 7 = .ok (.i2l, 1) := by decide +kernel
theorem d_La_apart_8 : decode b_La_apart 8 = .ok (.lastore, 1) := by decide +kernel
theorem d_La_apart_9 : decode b_La_apart 9 = .ok (.goto 9, 3) := by decide +kernel
theorem d_La_apart_12 : decode b_La_apart 12 = .ok (.astore_n 3, 1) := by decide +kernel
theorem d_La_apart_13 : decode b_La_apart 13 = .ok (.iconst 1, 1) := by decide +kernel
theorem d_La_apart_14 : decode b_La_apart 14 = .ok (.ireturn, 1) := by decide +kernel
theorem d_La_apart_15 : decode b_La_apart 15 = .ok (.astore_n 3, 1) := by decide +kernel
theorem d_La_apart_16 : decode b_La_apart 16 = .ok (.iconst 2, 1) := by decide +kernel
theorem d_La_apart_17 : decode b_La_apart 17 = .ok (.ireturn, 1) := by decide +kernel
theorem d_La_apart_18 : decode b_La_apart 18 = .ok (.iconst 0, 1) := by decide +kernel
theorem d_La_apart_19 : decode b_La_apart 19 = .ok (.ireturn, 1) := by decide +kernel
set_option maxHeartbeats 4000000 in
set_option maxRecDepth 100000 in
theorem v_La_apart_IAE (l : Launch) (K : pw_K) (f : pw_F) (xa oa sz d mc ms : Nat) (p0 : Int32) {fs : List Value} (hx0 : f xa = some (.inr (10, fs))) {post : pw_F → Prop} (hM : pw_T l K y_D_apart b_D_apart 5 (some .int) (rmk d mc ms) f [.ref xa, .int p0] sz sIAE post) : pw_W l K y_La_apart b_La_apart 4 (some .int) [(0, 9, 12, 13), (0, 9, 15, 22)] (rmk (d + 1) mc ms) f [.ref xa, .int p0, .ref oa] sz (fun v f2 z => v = some (.int 1) ∧ post f2) := by
  refine pw_startW (by decide) (Nat.le_of_ble_eq_true rfl) ?_
  intro p e s m args below meth c ls X htab hr hz hS hl
  have hl : lv_has ls 4 [(0, .ref xa), (1, .int p0), (2, .ref oa)] := hl
  have htb := tb_of htab
  have hZ := X.2.2.2.2.2.2.2.1
  have hx := X.1
  have hb := X.2.1
  generalize s.heap = H0 at hz hS ⊢
  generalize ([] : List Loc) = lc0 at hS ⊢
  refine lv_aload_n hx hb d_La_apart_0 rfl (lv_at hl 2 rfl) ?_
  refine lv_iconst (v := 0) hx hb d_La_apart_1 (by decide) ?_
  refine lv_aload_n hx hb d_La_apart_2 rfl (lv_at hl 0 rfl) ?_
  refine lv_iload_n hx hb d_La_apart_3 rfl (lv_at hl 1 rfl) ?_
  have hpre : ∀ z ∈ ([] : List ExceptionTableEntry), covers z 4 = true ∧ z.catchType ≠ 0 ∧ ∃ E', Cond.classLink R_La z.catchType E' ∈ lw_G ∧ (Cond.not (.castable sIAE E')).before (pA K) (pZ K) = true := (fun _ h => absurd h List.not_mem_nil)
  refine pw_callVH X hS (As := [.int p0]) (rest := [.int 0, .ref oa]) hM hz w_cd_D_apart w_ini_D w_ml_La_49 w_im_D_apart w_se_D_apart hx0 rfl hd_D_apart rfl hl.1 (Nat.le_of_ble_eq_true rfl) d_La_apart_4 ⟨by show d + 1 ≤ d + 1; omega, by show 8 + (5 + 11) + 64 * d ≤ 64 * (d + 1); omega⟩ ⟨show 0 + mc ≤ mc by omega, show 0 + ms ≤ ms by omega⟩ [] ⟨0, 9, 12, 13⟩ [⟨0, 9, 15, 22⟩] htb ⟨by decide, by decide, w_cl_La_13⟩ (ca_IAE K hZ).1 (ca_IAE K hZ).2 hpre (fun xe f1 H1 lc1 hp hS1 => ?_)
  refine lv_astore_n (lv' := [(3, .ref xe), (0, .ref xa), (1, .int p0), (2, .ref oa)]) hx hb d_La_apart_12 rfl hl (by decide) rfl (fun ls hl => ?_)
  refine lv_iconst (v := 1) hx hb d_La_apart_13 (by decide) ?_
  exact pw_iret X hS1 hr ⟨rfl, hp⟩ (show 0 + mc ≤ mc by omega) (show 0 + ms ≤ ms by omega) d_La_apart_14
set_option maxHeartbeats 4000000 in
set_option maxRecDepth 100000 in
theorem v_La_apart_ISE (l : Launch) (K : pw_K) (f : pw_F) (xa oa sz d mc ms : Nat) (p0 : Int32) {fs : List Value} (hx0 : f xa = some (.inr (10, fs))) {post : pw_F → Prop} (hM : pw_T l K y_D_apart b_D_apart 5 (some .int) (rmk d mc ms) f [.ref xa, .int p0] sz sISE post) : pw_W l K y_La_apart b_La_apart 4 (some .int) [(0, 9, 12, 13), (0, 9, 15, 22)] (rmk (d + 1) mc ms) f [.ref xa, .int p0, .ref oa] sz (fun v f2 z => v = some (.int 2) ∧ post f2) := by
  refine pw_startW (by decide) (Nat.le_of_ble_eq_true rfl) ?_
  intro p e s m args below meth c ls X htab hr hz hS hl
  have hl : lv_has ls 4 [(0, .ref xa), (1, .int p0), (2, .ref oa)] := hl
  have htb := tb_of htab
  have hZ := X.2.2.2.2.2.2.2.1
  have hx := X.1
  have hb := X.2.1
  generalize s.heap = H0 at hz hS ⊢
  generalize ([] : List Loc) = lc0 at hS ⊢
  refine lv_aload_n hx hb d_La_apart_0 rfl (lv_at hl 2 rfl) ?_
  refine lv_iconst (v := 0) hx hb d_La_apart_1 (by decide) ?_
  refine lv_aload_n hx hb d_La_apart_2 rfl (lv_at hl 0 rfl) ?_
  refine lv_iload_n hx hb d_La_apart_3 rfl (lv_at hl 1 rfl) ?_
  have hpre : ∀ z ∈ ([⟨0, 9, 12, 13⟩] : List ExceptionTableEntry), covers z 4 = true ∧ z.catchType ≠ 0 ∧ ∃ E', Cond.classLink R_La z.catchType E' ∈ lw_G ∧ (Cond.not (.castable sISE E')).before (pA K) (pZ K) = true := (List.forall_mem_cons.mpr ⟨⟨by decide, by decide, _, w_cl_La_13, nc_ISE_IAE K hZ⟩, (fun _ h => absurd h List.not_mem_nil)⟩)
  refine pw_callVH X hS (As := [.int p0]) (rest := [.int 0, .ref oa]) hM hz w_cd_D_apart w_ini_D w_ml_La_49 w_im_D_apart w_se_D_apart hx0 rfl hd_D_apart rfl hl.1 (Nat.le_of_ble_eq_true rfl) d_La_apart_4 ⟨by show d + 1 ≤ d + 1; omega, by show 8 + (5 + 11) + 64 * d ≤ 64 * (d + 1); omega⟩ ⟨show 0 + mc ≤ mc by omega, show 0 + ms ≤ ms by omega⟩ [⟨0, 9, 12, 13⟩] ⟨0, 9, 15, 22⟩ [] htb ⟨by decide, by decide, w_cl_La_22⟩ (ca_ISE K hZ).1 (ca_ISE K hZ).2 hpre (fun xe f1 H1 lc1 hp hS1 => ?_)
  refine lv_astore_n (lv' := [(3, .ref xe), (0, .ref xa), (1, .int p0), (2, .ref oa)]) hx hb d_La_apart_15 rfl hl (by decide) rfl (fun ls hl => ?_)
  refine lv_iconst (v := 2) hx hb d_La_apart_16 (by decide) ?_
  exact pw_iret X hS1 hr ⟨rfl, hp⟩ (show 0 + mc ≤ mc by omega) (show 0 + ms ≤ ms by omega) d_La_apart_17
set_option maxHeartbeats 4000000 in
set_option maxRecDepth 100000 in
theorem v_La_apart (l : Launch) (K : pw_K) (f : pw_F) (xa oa sz d mc ms : Nat) (p0 : Int32) (r : Int32) {fs : List Value} (hx0 : f xa = some (.inr (10, fs))) {post : pw_F → Nat → Prop} (hM : pw_C l K y_D_apart b_D_apart 5 (some .int) (rmk d mc ms) f [.ref xa, .int p0] sz (fun v f2 z => v = some (.int r) ∧ post f2 z)) (ho : ∀ f2 z, post f2 z → ∃ go : Nat → Int64, f2 oa = some (.inl (pE K 1, 1, .inr (.inl go)))) : pw_W l K y_La_apart b_La_apart 4 (some .int) [(0, 9, 12, 13), (0, 9, 15, 22)] (rmk (d + 1) mc ms) f [.ref xa, .int p0, .ref oa] sz (fun v f2 z => v = some (.int 0) ∧ ∃ (f1 : pw_F) (go : Nat → Int64), post f1 z ∧ go 0 = r.toInt64 ∧ f2 = pw_up f1 oa (.inl (pE K 1, 1, .inr (.inl go)))) := by
  refine pw_startW (by decide) (Nat.le_of_ble_eq_true rfl) ?_
  intro p e s m args below meth c ls X htab hr hz hS hl
  have hl : lv_has ls 4 [(0, .ref xa), (1, .int p0), (2, .ref oa)] := hl
  have htb := tb_of htab
  have hZ := X.2.2.2.2.2.2.2.1
  have hx := X.1
  have hb := X.2.1
  generalize s.heap = H0 at hz hS ⊢
  generalize ([] : List Loc) = lc0 at hS ⊢
  refine lv_aload_n hx hb d_La_apart_0 rfl (lv_at hl 2 rfl) ?_
  refine lv_iconst (v := 0) hx hb d_La_apart_1 (by decide) ?_
  refine lv_aload_n hx hb d_La_apart_2 rfl (lv_at hl 0 rfl) ?_
  refine lv_iload_n hx hb d_La_apart_3 rfl (lv_at hl 1 rfl) ?_
  refine pw_callV X hS (As := [.int p0]) (rest := [.int 0, .ref oa]) hM hz w_cd_D_apart w_ini_D w_ml_La_49 w_im_D_apart w_se_D_apart hx0 rfl hd_D_apart rfl hl.1 (Nat.le_of_ble_eq_true rfl) d_La_apart_4 ⟨by show d + 1 ≤ d + 1; omega, by show 8 + (5 + 11) + 64 * d ≤ 64 * (d + 1); omega⟩ ⟨show 0 + mc ≤ mc by omega, show 0 + ms ≤ ms by omega⟩ (fun v f1 H1 lc1 hp hS1 => ?_)
  obtain ⟨rfl, hp⟩ := hp
  obtain ⟨go, ho1⟩ := ho _ _ hp
  refine lv_i2l hx hb d_La_apart_7 rfl ?_
  refine pw_lst X hS1 ho1 (vp_in_nI (n := 0) (by decide) (by decide)) d_La_apart_8 (fun H2 lc2 hy hS2 => ?_)
  refine lv_goto (tgt := 18) hx hb d_La_apart_9 (by decide) ?_
  refine lv_iconst (v := 0) hx hb d_La_apart_18 (by decide) ?_
  exact pw_iret X hS2 hr ⟨rfl, f1, _, by rw [hy]; exact hp, if_pos rfl, rfl⟩ (show 0 + mc ≤ mc by omega) (show 0 + ms ≤ ms by omega) d_La_apart_19
theorem d_La_order_0 : decode b_La_order 0 = .ok (.aload_n 3, 1) := by decide +kernel
theorem d_La_order_1 : decode b_La_order 1 = .ok (.iconst 0, 1) := by decide +kernel
theorem d_La_order_2 : decode b_La_order 2 = .ok (.aload_n 0, 1) := by decide +kernel
theorem d_La_order_3 : decode b_La_order 3 = .ok (.iload_n 1, 1) := by decide +kernel
theorem d_La_order_4 : decode b_La_order 4 = .ok (.iload_n 2, 1) := by decide +kernel
theorem d_La_order_5 : decode b_La_order 5 = .ok (.invokevirtual 52, 3) := by decide +kernel
theorem d_La_order_8 : decode b_La_order 8 = .ok (.i2l, 1) := by decide +kernel
theorem d_La_order_9 : decode b_La_order 9 = .ok (.lastore, 1) := by decide +kernel
theorem d_La_order_10 : decode b_La_order 10 = .ok (.goto 11, 3) := by decide +kernel
theorem d_La_order_13 : decode b_La_order 13 = .ok (.astore 4, 2) := by decide +kernel
theorem d_La_order_15 : decode b_La_order 15 = .ok (.iconst 1, 1) := by decide +kernel
theorem d_La_order_16 : decode b_La_order 16 = .ok (.ireturn, 1) := by decide +kernel
theorem d_La_order_17 : decode b_La_order 17 = .ok (.astore 4, 2) := by decide +kernel
theorem d_La_order_19 : decode b_La_order 19 = .ok (.iconst 2, 1) := by decide +kernel
theorem d_La_order_20 : decode b_La_order 20 = .ok (.ireturn, 1) := by decide +kernel
theorem d_La_order_21 : decode b_La_order 21 = .ok (.iconst 0, 1) := by decide +kernel
theorem d_La_order_22 : decode b_La_order 22 = .ok (.ireturn, 1) := by decide +kernel
set_option maxHeartbeats 4000000 in
set_option maxRecDepth 100000 in
theorem v_La_order_ISE (l : Launch) (K : pw_K) (f : pw_F) (xa oa sz d mc ms : Nat) (p0 : Int32) (p1 : Int32) {fs : List Value} (hx0 : f xa = some (.inr (10, fs))) {post : pw_F → Prop} (hM : pw_T l K y_D_order b_D_order 5 (some .int) (rmk d mc ms) f [.ref xa, .int p0, .int p1] sz sISE post) : pw_W l K y_La_order b_La_order 5 (some .int) [(0, 10, 13, 22), (0, 10, 17, 39)] (rmk (d + 1) mc ms) f [.ref xa, .int p0, .int p1, .ref oa] sz (fun v f2 z => v = some (.int 1) ∧ post f2) := by
  refine pw_startW (by decide) (Nat.le_of_ble_eq_true rfl) ?_
  intro p e s m args below meth c ls X htab hr hz hS hl
  have hl : lv_has ls 5 [(0, .ref xa), (1, .int p0), (2, .int p1), (3, .ref oa)] := hl
  have htb := tb_of htab
  have hZ := X.2.2.2.2.2.2.2.1
  have hx := X.1
  have hb := X.2.1
  generalize s.heap = H0 at hz hS ⊢
  generalize ([] : List Loc) = lc0 at hS ⊢
  refine lv_aload_n hx hb d_La_order_0 rfl (lv_at hl 3 rfl) ?_
  refine lv_iconst (v := 0) hx hb d_La_order_1 (by decide) ?_
  refine lv_aload_n hx hb d_La_order_2 rfl (lv_at hl 0 rfl) ?_
  refine lv_iload_n hx hb d_La_order_3 rfl (lv_at hl 1 rfl) ?_
  refine lv_iload_n hx hb d_La_order_4 rfl (lv_at hl 2 rfl) ?_
  have hpre : ∀ z ∈ ([] : List ExceptionTableEntry), covers z 5 = true ∧ z.catchType ≠ 0 ∧ ∃ E', Cond.classLink R_La z.catchType E' ∈ lw_G ∧ (Cond.not (.castable sISE E')).before (pA K) (pZ K) = true := (fun _ h => absurd h List.not_mem_nil)
  refine pw_callVH X hS (As := [.int p0, .int p1]) (rest := [.int 0, .ref oa]) hM hz w_cd_D_order w_ini_D w_ml_La_52 w_im_D_order w_se_D_order hx0 rfl hd_D_order rfl hl.1 (Nat.le_of_ble_eq_true rfl) d_La_order_5 ⟨by show d + 1 ≤ d + 1; omega, by show 8 + (5 + 11) + 64 * d ≤ 64 * (d + 1); omega⟩ ⟨show 0 + mc ≤ mc by omega, show 0 + ms ≤ ms by omega⟩ [] ⟨0, 10, 13, 22⟩ [⟨0, 10, 17, 39⟩] htb ⟨by decide, by decide, w_cl_La_22⟩ (ca_ISE K hZ).1 (ca_ISE K hZ).2 hpre (fun xe f1 H1 lc1 hp hS1 => ?_)
  refine lv_astore (lv' := [(4, .ref xe), (0, .ref xa), (1, .int p0), (2, .int p1), (3, .ref oa)]) hx hb d_La_order_13 hl (by decide) rfl (fun ls hl => ?_)
  refine lv_iconst (v := 1) hx hb d_La_order_15 (by decide) ?_
  exact pw_iret X hS1 hr ⟨rfl, hp⟩ (show 0 + mc ≤ mc by omega) (show 0 + ms ≤ ms by omega) d_La_order_16
set_option maxHeartbeats 4000000 in
set_option maxRecDepth 100000 in
theorem v_La_order_NSE (l : Launch) (K : pw_K) (f : pw_F) (xa oa sz d mc ms : Nat) (p0 : Int32) (p1 : Int32) {fs : List Value} (hx0 : f xa = some (.inr (10, fs))) {post : pw_F → Prop} (hM : pw_T l K y_D_order b_D_order 5 (some .int) (rmk d mc ms) f [.ref xa, .int p0, .int p1] sz sNSE post) : pw_W l K y_La_order b_La_order 5 (some .int) [(0, 10, 13, 22), (0, 10, 17, 39)] (rmk (d + 1) mc ms) f [.ref xa, .int p0, .int p1, .ref oa] sz (fun v f2 z => v = some (.int 2) ∧ post f2) := by
  refine pw_startW (by decide) (Nat.le_of_ble_eq_true rfl) ?_
  intro p e s m args below meth c ls X htab hr hz hS hl
  have hl : lv_has ls 5 [(0, .ref xa), (1, .int p0), (2, .int p1), (3, .ref oa)] := hl
  have htb := tb_of htab
  have hZ := X.2.2.2.2.2.2.2.1
  have hx := X.1
  have hb := X.2.1
  generalize s.heap = H0 at hz hS ⊢
  generalize ([] : List Loc) = lc0 at hS ⊢
  refine lv_aload_n hx hb d_La_order_0 rfl (lv_at hl 3 rfl) ?_
  refine lv_iconst (v := 0) hx hb d_La_order_1 (by decide) ?_
  refine lv_aload_n hx hb d_La_order_2 rfl (lv_at hl 0 rfl) ?_
  refine lv_iload_n hx hb d_La_order_3 rfl (lv_at hl 1 rfl) ?_
  refine lv_iload_n hx hb d_La_order_4 rfl (lv_at hl 2 rfl) ?_
  have hpre : ∀ z ∈ ([⟨0, 10, 13, 22⟩] : List ExceptionTableEntry), covers z 5 = true ∧ z.catchType ≠ 0 ∧ ∃ E', Cond.classLink R_La z.catchType E' ∈ lw_G ∧ (Cond.not (.castable sNSE E')).before (pA K) (pZ K) = true := (List.forall_mem_cons.mpr ⟨⟨by decide, by decide, _, w_cl_La_22, nc_NSE_ISE K hZ⟩, (fun _ h => absurd h List.not_mem_nil)⟩)
  refine pw_callVH X hS (As := [.int p0, .int p1]) (rest := [.int 0, .ref oa]) hM hz w_cd_D_order w_ini_D w_ml_La_52 w_im_D_order w_se_D_order hx0 rfl hd_D_order rfl hl.1 (Nat.le_of_ble_eq_true rfl) d_La_order_5 ⟨by show d + 1 ≤ d + 1; omega, by show 8 + (5 + 11) + 64 * d ≤ 64 * (d + 1); omega⟩ ⟨show 0 + mc ≤ mc by omega, show 0 + ms ≤ ms by omega⟩ [⟨0, 10, 13, 22⟩] ⟨0, 10, 17, 39⟩ [] htb ⟨by decide, by decide, w_cl_La_39⟩ (ca_NSE K hZ).1 (ca_NSE K hZ).2 hpre (fun xe f1 H1 lc1 hp hS1 => ?_)
  refine lv_astore (lv' := [(4, .ref xe), (0, .ref xa), (1, .int p0), (2, .int p1), (3, .ref oa)]) hx hb d_La_order_17 hl (by decide) rfl (fun ls hl => ?_)
  refine lv_iconst (v := 2) hx hb d_La_order_19 (by decide) ?_
  exact pw_iret X hS1 hr ⟨rfl, hp⟩ (show 0 + mc ≤ mc by omega) (show 0 + ms ≤ ms by omega) d_La_order_20
set_option maxHeartbeats 4000000 in
set_option maxRecDepth 100000 in
theorem v_La_order (l : Launch) (K : pw_K) (f : pw_F) (xa oa sz d mc ms : Nat) (p0 : Int32) (p1 : Int32) (r : Int32) {fs : List Value} (hx0 : f xa = some (.inr (10, fs))) {post : pw_F → Nat → Prop} (hM : pw_C l K y_D_order b_D_order 5 (some .int) (rmk d mc ms) f [.ref xa, .int p0, .int p1] sz (fun v f2 z => v = some (.int r) ∧ post f2 z)) (ho : ∀ f2 z, post f2 z → ∃ go : Nat → Int64, f2 oa = some (.inl (pE K 1, 1, .inr (.inl go)))) : pw_W l K y_La_order b_La_order 5 (some .int) [(0, 10, 13, 22), (0, 10, 17, 39)] (rmk (d + 1) mc ms) f [.ref xa, .int p0, .int p1, .ref oa] sz (fun v f2 z => v = some (.int 0) ∧ ∃ (f1 : pw_F) (go : Nat → Int64), post f1 z ∧ go 0 = r.toInt64 ∧ f2 = pw_up f1 oa (.inl (pE K 1, 1, .inr (.inl go)))) := by
  refine pw_startW (by decide) (Nat.le_of_ble_eq_true rfl) ?_
  intro p e s m args below meth c ls X htab hr hz hS hl
  have hl : lv_has ls 5 [(0, .ref xa), (1, .int p0), (2, .int p1), (3, .ref oa)] := hl
  have htb := tb_of htab
  have hZ := X.2.2.2.2.2.2.2.1
  have hx := X.1
  have hb := X.2.1
  generalize s.heap = H0 at hz hS ⊢
  generalize ([] : List Loc) = lc0 at hS ⊢
  refine lv_aload_n hx hb d_La_order_0 rfl (lv_at hl 3 rfl) ?_
  refine lv_iconst (v := 0) hx hb d_La_order_1 (by decide) ?_
  refine lv_aload_n hx hb d_La_order_2 rfl (lv_at hl 0 rfl) ?_
  refine lv_iload_n hx hb d_La_order_3 rfl (lv_at hl 1 rfl) ?_
  refine lv_iload_n hx hb d_La_order_4 rfl (lv_at hl 2 rfl) ?_
  refine pw_callV X hS (As := [.int p0, .int p1]) (rest := [.int 0, .ref oa]) hM hz w_cd_D_order w_ini_D w_ml_La_52 w_im_D_order w_se_D_order hx0 rfl hd_D_order rfl hl.1 (Nat.le_of_ble_eq_true rfl) d_La_order_5 ⟨by show d + 1 ≤ d + 1; omega, by show 8 + (5 + 11) + 64 * d ≤ 64 * (d + 1); omega⟩ ⟨show 0 + mc ≤ mc by omega, show 0 + ms ≤ ms by omega⟩ (fun v f1 H1 lc1 hp hS1 => ?_)
  obtain ⟨rfl, hp⟩ := hp
  obtain ⟨go, ho1⟩ := ho _ _ hp
  refine lv_i2l hx hb d_La_order_8 rfl ?_
  refine pw_lst X hS1 ho1 (vp_in_nI (n := 0) (by decide) (by decide)) d_La_order_9 (fun H2 lc2 hy hS2 => ?_)
  refine lv_goto (tgt := 21) hx hb d_La_order_10 (by decide) ?_
  refine lv_iconst (v := 0) hx hb d_La_order_21 (by decide) ?_
  exact pw_iret X hS2 hr ⟨rfl, f1, _, by rw [hy]; exact hp, if_pos rfl, rfl⟩ (show 0 + mc ≤ mc by omega) (show 0 + ms ≤ ms by omega) d_La_order_22
theorem d_La_signAt_0 : decode b_La_signAt 0 = .ok (.aload_n 3, 1) := by decide +kernel
theorem d_La_signAt_1 : decode b_La_signAt 1 = .ok (.iconst 0, 1) := by decide +kernel
theorem d_La_signAt_2 : decode b_La_signAt 2 = .ok (.aload_n 0, 1) := by decide +kernel
theorem d_La_signAt_3 : decode b_La_signAt 3 = .ok (.iload_n 1, 1) := by decide +kernel
theorem d_La_signAt_4 : decode b_La_signAt 4 = .ok (.iload_n 2, 1) := by decide +kernel
theorem d_La_signAt_5 : decode b_La_signAt 5 = .ok (.invokevirtual 55, 3) := by decide +kernel
theorem d_La_signAt_8 : decode b_La_signAt 8 = .ok (.i2l, 1) := by decide +kernel
theorem d_La_signAt_9 : decode b_La_signAt 9 = .ok (.lastore, 1) := by decide +kernel
theorem d_La_signAt_10 : decode b_La_signAt 10 = .ok (.goto 15, 3) := by decide +kernel
theorem d_La_signAt_13 : decode b_La_signAt 13 = .ok (.astore 4, 2) := by decide +kernel
theorem d_La_signAt_15 : decode b_La_signAt 15 = .ok (.iconst 1, 1) := by decide +kernel
theorem d_La_signAt_16 : decode b_La_signAt 16 = .ok (.ireturn, 1) := by decide +kernel
theorem d_La_signAt_17 : decode b_La_signAt 17 = .ok (.astore 4, 2) := by decide +kernel
theorem d_La_signAt_19 : decode b_La_signAt 19 = .ok (.iconst 2, 1) := by decide +kernel
theorem d_La_signAt_20 : decode b_La_signAt 20 = .ok (.ireturn, 1) := by decide +kernel
theorem d_La_signAt_21 : decode b_La_signAt 21 = .ok (.astore 4, 2) := by decide +kernel
theorem d_La_signAt_23 : decode b_La_signAt 23 = .ok (.iconst 3, 1) := by decide +kernel
theorem d_La_signAt_24 : decode b_La_signAt 24 = .ok (.ireturn, 1) := by decide +kernel
theorem d_La_signAt_25 : decode b_La_signAt 25 = .ok (.iconst 0, 1) := by decide +kernel
theorem d_La_signAt_26 : decode b_La_signAt 26 = .ok (.ireturn, 1) := by decide +kernel
set_option maxHeartbeats 4000000 in
set_option maxRecDepth 100000 in
theorem v_La_signAt_IAE (l : Launch) (K : pw_K) (f : pw_F) (xa oa sz d mc ms : Nat) (p0 : Int32) (p1 : Int32) {fs : List Value} (hx0 : f xa = some (.inr (10, fs))) {post : pw_F → Prop} (hM : pw_T l K y_D_signAt b_D_signAt 5 (some .int) (rmk d mc ms) f [.ref xa, .int p0, .int p1] sz sIAE post) : pw_W l K y_La_signAt b_La_signAt 5 (some .int) [(0, 10, 13, 13), (0, 10, 17, 22), (0, 10, 21, 39)] (rmk (d + 1) mc ms) f [.ref xa, .int p0, .int p1, .ref oa] sz (fun v f2 z => v = some (.int 1) ∧ post f2) := by
  refine pw_startW (by decide) (Nat.le_of_ble_eq_true rfl) ?_
  intro p e s m args below meth c ls X htab hr hz hS hl
  have hl : lv_has ls 5 [(0, .ref xa), (1, .int p0), (2, .int p1), (3, .ref oa)] := hl
  have htb := tb_of htab
  have hZ := X.2.2.2.2.2.2.2.1
  have hx := X.1
  have hb := X.2.1
  generalize s.heap = H0 at hz hS ⊢
  generalize ([] : List Loc) = lc0 at hS ⊢
  refine lv_aload_n hx hb d_La_signAt_0 rfl (lv_at hl 3 rfl) ?_
  refine lv_iconst (v := 0) hx hb d_La_signAt_1 (by decide) ?_
  refine lv_aload_n hx hb d_La_signAt_2 rfl (lv_at hl 0 rfl) ?_
  refine lv_iload_n hx hb d_La_signAt_3 rfl (lv_at hl 1 rfl) ?_
  refine lv_iload_n hx hb d_La_signAt_4 rfl (lv_at hl 2 rfl) ?_
  have hpre : ∀ z ∈ ([] : List ExceptionTableEntry), covers z 5 = true ∧ z.catchType ≠ 0 ∧ ∃ E', Cond.classLink R_La z.catchType E' ∈ lw_G ∧ (Cond.not (.castable sIAE E')).before (pA K) (pZ K) = true := (fun _ h => absurd h List.not_mem_nil)
  refine pw_callVH X hS (As := [.int p0, .int p1]) (rest := [.int 0, .ref oa]) hM hz w_cd_D_signAt w_ini_D w_ml_La_55 w_im_D_signAt w_se_D_signAt hx0 rfl hd_D_signAt rfl hl.1 (Nat.le_of_ble_eq_true rfl) d_La_signAt_5 ⟨by show d + 1 ≤ d + 1; omega, by show 8 + (5 + 11) + 64 * d ≤ 64 * (d + 1); omega⟩ ⟨show 0 + mc ≤ mc by omega, show 0 + ms ≤ ms by omega⟩ [] ⟨0, 10, 13, 13⟩ [⟨0, 10, 17, 22⟩, ⟨0, 10, 21, 39⟩] htb ⟨by decide, by decide, w_cl_La_13⟩ (ca_IAE K hZ).1 (ca_IAE K hZ).2 hpre (fun xe f1 H1 lc1 hp hS1 => ?_)
  refine lv_astore (lv' := [(4, .ref xe), (0, .ref xa), (1, .int p0), (2, .int p1), (3, .ref oa)]) hx hb d_La_signAt_13 hl (by decide) rfl (fun ls hl => ?_)
  refine lv_iconst (v := 1) hx hb d_La_signAt_15 (by decide) ?_
  exact pw_iret X hS1 hr ⟨rfl, hp⟩ (show 0 + mc ≤ mc by omega) (show 0 + ms ≤ ms by omega) d_La_signAt_16
set_option maxHeartbeats 4000000 in
set_option maxRecDepth 100000 in
theorem v_La_signAt_ISE (l : Launch) (K : pw_K) (f : pw_F) (xa oa sz d mc ms : Nat) (p0 : Int32) (p1 : Int32) {fs : List Value} (hx0 : f xa = some (.inr (10, fs))) {post : pw_F → Prop} (hM : pw_T l K y_D_signAt b_D_signAt 5 (some .int) (rmk d mc ms) f [.ref xa, .int p0, .int p1] sz sISE post) : pw_W l K y_La_signAt b_La_signAt 5 (some .int) [(0, 10, 13, 13), (0, 10, 17, 22), (0, 10, 21, 39)] (rmk (d + 1) mc ms) f [.ref xa, .int p0, .int p1, .ref oa] sz (fun v f2 z => v = some (.int 2) ∧ post f2) := by
  refine pw_startW (by decide) (Nat.le_of_ble_eq_true rfl) ?_
  intro p e s m args below meth c ls X htab hr hz hS hl
  have hl : lv_has ls 5 [(0, .ref xa), (1, .int p0), (2, .int p1), (3, .ref oa)] := hl
  have htb := tb_of htab
  have hZ := X.2.2.2.2.2.2.2.1
  have hx := X.1
  have hb := X.2.1
  generalize s.heap = H0 at hz hS ⊢
  generalize ([] : List Loc) = lc0 at hS ⊢
  refine lv_aload_n hx hb d_La_signAt_0 rfl (lv_at hl 3 rfl) ?_
  refine lv_iconst (v := 0) hx hb d_La_signAt_1 (by decide) ?_
  refine lv_aload_n hx hb d_La_signAt_2 rfl (lv_at hl 0 rfl) ?_
  refine lv_iload_n hx hb d_La_signAt_3 rfl (lv_at hl 1 rfl) ?_
  refine lv_iload_n hx hb d_La_signAt_4 rfl (lv_at hl 2 rfl) ?_
  have hpre : ∀ z ∈ ([⟨0, 10, 13, 13⟩] : List ExceptionTableEntry), covers z 5 = true ∧ z.catchType ≠ 0 ∧ ∃ E', Cond.classLink R_La z.catchType E' ∈ lw_G ∧ (Cond.not (.castable sISE E')).before (pA K) (pZ K) = true := (List.forall_mem_cons.mpr ⟨⟨by decide, by decide, _, w_cl_La_13, nc_ISE_IAE K hZ⟩, (fun _ h => absurd h List.not_mem_nil)⟩)
  refine pw_callVH X hS (As := [.int p0, .int p1]) (rest := [.int 0, .ref oa]) hM hz w_cd_D_signAt w_ini_D w_ml_La_55 w_im_D_signAt w_se_D_signAt hx0 rfl hd_D_signAt rfl hl.1 (Nat.le_of_ble_eq_true rfl) d_La_signAt_5 ⟨by show d + 1 ≤ d + 1; omega, by show 8 + (5 + 11) + 64 * d ≤ 64 * (d + 1); omega⟩ ⟨show 0 + mc ≤ mc by omega, show 0 + ms ≤ ms by omega⟩ [⟨0, 10, 13, 13⟩] ⟨0, 10, 17, 22⟩ [⟨0, 10, 21, 39⟩] htb ⟨by decide, by decide, w_cl_La_22⟩ (ca_ISE K hZ).1 (ca_ISE K hZ).2 hpre (fun xe f1 H1 lc1 hp hS1 => ?_)
  refine lv_astore (lv' := [(4, .ref xe), (0, .ref xa), (1, .int p0), (2, .int p1), (3, .ref oa)]) hx hb d_La_signAt_17 hl (by decide) rfl (fun ls hl => ?_)
  refine lv_iconst (v := 2) hx hb d_La_signAt_19 (by decide) ?_
  exact pw_iret X hS1 hr ⟨rfl, hp⟩ (show 0 + mc ≤ mc by omega) (show 0 + ms ≤ ms by omega) d_La_signAt_20
set_option maxHeartbeats 4000000 in
set_option maxRecDepth 100000 in
theorem v_La_signAt_NSE (l : Launch) (K : pw_K) (f : pw_F) (xa oa sz d mc ms : Nat) (p0 : Int32) (p1 : Int32) {fs : List Value} (hx0 : f xa = some (.inr (10, fs))) {post : pw_F → Prop} (hM : pw_T l K y_D_signAt b_D_signAt 5 (some .int) (rmk d mc ms) f [.ref xa, .int p0, .int p1] sz sNSE post) : pw_W l K y_La_signAt b_La_signAt 5 (some .int) [(0, 10, 13, 13), (0, 10, 17, 22), (0, 10, 21, 39)] (rmk (d + 1) mc ms) f [.ref xa, .int p0, .int p1, .ref oa] sz (fun v f2 z => v = some (.int 3) ∧ post f2) := by
  refine pw_startW (by decide) (Nat.le_of_ble_eq_true rfl) ?_
  intro p e s m args below meth c ls X htab hr hz hS hl
  have hl : lv_has ls 5 [(0, .ref xa), (1, .int p0), (2, .int p1), (3, .ref oa)] := hl
  have htb := tb_of htab
  have hZ := X.2.2.2.2.2.2.2.1
  have hx := X.1
  have hb := X.2.1
  generalize s.heap = H0 at hz hS ⊢
  generalize ([] : List Loc) = lc0 at hS ⊢
  refine lv_aload_n hx hb d_La_signAt_0 rfl (lv_at hl 3 rfl) ?_
  refine lv_iconst (v := 0) hx hb d_La_signAt_1 (by decide) ?_
  refine lv_aload_n hx hb d_La_signAt_2 rfl (lv_at hl 0 rfl) ?_
  refine lv_iload_n hx hb d_La_signAt_3 rfl (lv_at hl 1 rfl) ?_
  refine lv_iload_n hx hb d_La_signAt_4 rfl (lv_at hl 2 rfl) ?_
  have hpre : ∀ z ∈ ([⟨0, 10, 13, 13⟩, ⟨0, 10, 17, 22⟩] : List ExceptionTableEntry), covers z 5 = true ∧ z.catchType ≠ 0 ∧ ∃ E', Cond.classLink R_La z.catchType E' ∈ lw_G ∧ (Cond.not (.castable sNSE E')).before (pA K) (pZ K) = true := (List.forall_mem_cons.mpr ⟨⟨by decide, by decide, _, w_cl_La_13, nc_NSE_IAE K hZ⟩, (List.forall_mem_cons.mpr ⟨⟨by decide, by decide, _, w_cl_La_22, nc_NSE_ISE K hZ⟩, (fun _ h => absurd h List.not_mem_nil)⟩)⟩)
  refine pw_callVH X hS (As := [.int p0, .int p1]) (rest := [.int 0, .ref oa]) hM hz w_cd_D_signAt w_ini_D w_ml_La_55 w_im_D_signAt w_se_D_signAt hx0 rfl hd_D_signAt rfl hl.1 (Nat.le_of_ble_eq_true rfl) d_La_signAt_5 ⟨by show d + 1 ≤ d + 1; omega, by show 8 + (5 + 11) + 64 * d ≤ 64 * (d + 1); omega⟩ ⟨show 0 + mc ≤ mc by omega, show 0 + ms ≤ ms by omega⟩ [⟨0, 10, 13, 13⟩, ⟨0, 10, 17, 22⟩] ⟨0, 10, 21, 39⟩ [] htb ⟨by decide, by decide, w_cl_La_39⟩ (ca_NSE K hZ).1 (ca_NSE K hZ).2 hpre (fun xe f1 H1 lc1 hp hS1 => ?_)
  refine lv_astore (lv' := [(4, .ref xe), (0, .ref xa), (1, .int p0), (2, .int p1), (3, .ref oa)]) hx hb d_La_signAt_21 hl (by decide) rfl (fun ls hl => ?_)
  refine lv_iconst (v := 3) hx hb d_La_signAt_23 (by decide) ?_
  exact pw_iret X hS1 hr ⟨rfl, hp⟩ (show 0 + mc ≤ mc by omega) (show 0 + ms ≤ ms by omega) d_La_signAt_24
set_option maxHeartbeats 4000000 in
set_option maxRecDepth 100000 in
theorem v_La_signAt (l : Launch) (K : pw_K) (f : pw_F) (xa oa sz d mc ms : Nat) (p0 : Int32) (p1 : Int32) (r : Int32) {fs : List Value} (hx0 : f xa = some (.inr (10, fs))) {post : pw_F → Nat → Prop} (hM : pw_C l K y_D_signAt b_D_signAt 5 (some .int) (rmk d mc ms) f [.ref xa, .int p0, .int p1] sz (fun v f2 z => v = some (.int r) ∧ post f2 z)) (ho : ∀ f2 z, post f2 z → ∃ go : Nat → Int64, f2 oa = some (.inl (pE K 1, 1, .inr (.inl go)))) : pw_W l K y_La_signAt b_La_signAt 5 (some .int) [(0, 10, 13, 13), (0, 10, 17, 22), (0, 10, 21, 39)] (rmk (d + 1) mc ms) f [.ref xa, .int p0, .int p1, .ref oa] sz (fun v f2 z => v = some (.int 0) ∧ ∃ (f1 : pw_F) (go : Nat → Int64), post f1 z ∧ go 0 = r.toInt64 ∧ f2 = pw_up f1 oa (.inl (pE K 1, 1, .inr (.inl go)))) := by
  refine pw_startW (by decide) (Nat.le_of_ble_eq_true rfl) ?_
  intro p e s m args below meth c ls X htab hr hz hS hl
  have hl : lv_has ls 5 [(0, .ref xa), (1, .int p0), (2, .int p1), (3, .ref oa)] := hl
  have htb := tb_of htab
  have hZ := X.2.2.2.2.2.2.2.1
  have hx := X.1
  have hb := X.2.1
  generalize s.heap = H0 at hz hS ⊢
  generalize ([] : List Loc) = lc0 at hS ⊢
  refine lv_aload_n hx hb d_La_signAt_0 rfl (lv_at hl 3 rfl) ?_
  refine lv_iconst (v := 0) hx hb d_La_signAt_1 (by decide) ?_
  refine lv_aload_n hx hb d_La_signAt_2 rfl (lv_at hl 0 rfl) ?_
  refine lv_iload_n hx hb d_La_signAt_3 rfl (lv_at hl 1 rfl) ?_
  refine lv_iload_n hx hb d_La_signAt_4 rfl (lv_at hl 2 rfl) ?_
  refine pw_callV X hS (As := [.int p0, .int p1]) (rest := [.int 0, .ref oa]) hM hz w_cd_D_signAt w_ini_D w_ml_La_55 w_im_D_signAt w_se_D_signAt hx0 rfl hd_D_signAt rfl hl.1 (Nat.le_of_ble_eq_true rfl) d_La_signAt_5 ⟨by show d + 1 ≤ d + 1; omega, by show 8 + (5 + 11) + 64 * d ≤ 64 * (d + 1); omega⟩ ⟨show 0 + mc ≤ mc by omega, show 0 + ms ≤ ms by omega⟩ (fun v f1 H1 lc1 hp hS1 => ?_)
  obtain ⟨rfl, hp⟩ := hp
  obtain ⟨go, ho1⟩ := ho _ _ hp
  refine lv_i2l hx hb d_La_signAt_8 rfl ?_
  refine pw_lst X hS1 ho1 (vp_in_nI (n := 0) (by decide) (by decide)) d_La_signAt_9 (fun H2 lc2 hy hS2 => ?_)
  refine lv_goto (tgt := 25) hx hb d_La_signAt_10 (by decide) ?_
  refine lv_iconst (v := 0) hx hb d_La_signAt_25 (by decide) ?_
  exact pw_iret X hS2 hr ⟨rfl, f1, _, by rw [hy]; exact hp, if_pos rfl, rfl⟩ (show 0 + mc ≤ mc by omega) (show 0 + ms ≤ ms by omega) d_La_signAt_26
theorem d_La_common_0 : decode b_La_common 0 = .ok (.aload_n 1, 1) := by decide +kernel
theorem d_La_common_1 : decode b_La_common 1 = .ok (.iconst 0, 1) := by decide +kernel
theorem d_La_common_2 : decode b_La_common 2 = .ok (.aload_n 0, 1) := by decide +kernel
theorem d_La_common_3 : decode b_La_common 3 = .ok (.invokevirtual 58, 3) := by decide +kernel
theorem d_La_common_6 : decode b_La_common 6 = .ok (.i2l, 1) := by decide +kernel
theorem d_La_common_7 : decode b_La_common 7 = .ok (.lastore, 1) := by decide +kernel
theorem d_La_common_8 : decode b_La_common 8 = .ok (.goto 6, 3) := by decide +kernel
theorem d_La_common_11 : decode b_La_common 11 = .ok (.astore_n 2, 1) := by decide +kernel
theorem d_La_common_12 : decode b_La_common 12 = .ok (.iconst 1, 1) := by decide +kernel
theorem d_La_common_13 : decode b_La_common 13 = .ok (.ireturn, 1) := by decide +kernel
theorem d_La_common_14 : decode b_La_common 14 = .ok (.iconst 0, 1) := by decide +kernel
theorem d_La_common_15 : decode b_La_common 15 = .ok (.ireturn, 1) := by decide +kernel
set_option maxHeartbeats 4000000 in
set_option maxRecDepth 100000 in
theorem v_La_common_ISE (l : Launch) (K : pw_K) (f : pw_F) (xa oa sz d mc ms : Nat)  {fs : List Value} (hx0 : f xa = some (.inr (10, fs))) {post : pw_F → Prop} (hM : pw_T l K y_D_common b_D_common 3 (some .int) (rmk d mc ms) f [.ref xa] sz sISE post) : pw_W l K y_La_common b_La_common 3 (some .int) [(0, 8, 11, 22)] (rmk (d + 1) mc ms) f [.ref xa, .ref oa] sz (fun v f2 z => v = some (.int 1) ∧ post f2) := by
  refine pw_startW (by decide) (Nat.le_of_ble_eq_true rfl) ?_
  intro p e s m args below meth c ls X htab hr hz hS hl
  have hl : lv_has ls 3 [(0, .ref xa), (1, .ref oa)] := hl
  have htb := tb_of htab
  have hZ := X.2.2.2.2.2.2.2.1
  have hx := X.1
  have hb := X.2.1
  generalize s.heap = H0 at hz hS ⊢
  generalize ([] : List Loc) = lc0 at hS ⊢
  refine lv_aload_n hx hb d_La_common_0 rfl (lv_at hl 1 rfl) ?_
  refine lv_iconst (v := 0) hx hb d_La_common_1 (by decide) ?_
  refine lv_aload_n hx hb d_La_common_2 rfl (lv_at hl 0 rfl) ?_
  have hpre : ∀ z ∈ ([] : List ExceptionTableEntry), covers z 3 = true ∧ z.catchType ≠ 0 ∧ ∃ E', Cond.classLink R_La z.catchType E' ∈ lw_G ∧ (Cond.not (.castable sISE E')).before (pA K) (pZ K) = true := (fun _ h => absurd h List.not_mem_nil)
  refine pw_callVH X hS (As := []) (rest := [.int 0, .ref oa]) hM hz w_cd_D_common w_ini_D w_ml_La_58 w_im_D_common w_se_D_common hx0 rfl hd_D_common rfl hl.1 (Nat.le_of_ble_eq_true rfl) d_La_common_3 ⟨by show d + 1 ≤ d + 1; omega, by show 8 + (3 + 11) + 64 * d ≤ 64 * (d + 1); omega⟩ ⟨show 0 + mc ≤ mc by omega, show 0 + ms ≤ ms by omega⟩ [] ⟨0, 8, 11, 22⟩ [] htb ⟨by decide, by decide, w_cl_La_22⟩ (ca_ISE K hZ).1 (ca_ISE K hZ).2 hpre (fun xe f1 H1 lc1 hp hS1 => ?_)
  refine lv_astore_n (lv' := [(2, .ref xe), (0, .ref xa), (1, .ref oa)]) hx hb d_La_common_11 rfl hl (by decide) rfl (fun ls hl => ?_)
  refine lv_iconst (v := 1) hx hb d_La_common_12 (by decide) ?_
  exact pw_iret X hS1 hr ⟨rfl, hp⟩ (show 0 + mc ≤ mc by omega) (show 0 + ms ≤ ms by omega) d_La_common_13
set_option maxHeartbeats 4000000 in
set_option maxRecDepth 100000 in
theorem v_La_common (l : Launch) (K : pw_K) (f : pw_F) (xa oa sz d mc ms : Nat)  (r : Int32) {fs : List Value} (hx0 : f xa = some (.inr (10, fs))) {post : pw_F → Nat → Prop} (hM : pw_C l K y_D_common b_D_common 3 (some .int) (rmk d mc ms) f [.ref xa] sz (fun v f2 z => v = some (.int r) ∧ post f2 z)) (ho : ∀ f2 z, post f2 z → ∃ go : Nat → Int64, f2 oa = some (.inl (pE K 1, 1, .inr (.inl go)))) : pw_W l K y_La_common b_La_common 3 (some .int) [(0, 8, 11, 22)] (rmk (d + 1) mc ms) f [.ref xa, .ref oa] sz (fun v f2 z => v = some (.int 0) ∧ ∃ (f1 : pw_F) (go : Nat → Int64), post f1 z ∧ go 0 = r.toInt64 ∧ f2 = pw_up f1 oa (.inl (pE K 1, 1, .inr (.inl go)))) := by
  refine pw_startW (by decide) (Nat.le_of_ble_eq_true rfl) ?_
  intro p e s m args below meth c ls X htab hr hz hS hl
  have hl : lv_has ls 3 [(0, .ref xa), (1, .ref oa)] := hl
  have htb := tb_of htab
  have hZ := X.2.2.2.2.2.2.2.1
  have hx := X.1
  have hb := X.2.1
  generalize s.heap = H0 at hz hS ⊢
  generalize ([] : List Loc) = lc0 at hS ⊢
  refine lv_aload_n hx hb d_La_common_0 rfl (lv_at hl 1 rfl) ?_
  refine lv_iconst (v := 0) hx hb d_La_common_1 (by decide) ?_
  refine lv_aload_n hx hb d_La_common_2 rfl (lv_at hl 0 rfl) ?_
  refine pw_callV X hS (As := []) (rest := [.int 0, .ref oa]) hM hz w_cd_D_common w_ini_D w_ml_La_58 w_im_D_common w_se_D_common hx0 rfl hd_D_common rfl hl.1 (Nat.le_of_ble_eq_true rfl) d_La_common_3 ⟨by show d + 1 ≤ d + 1; omega, by show 8 + (3 + 11) + 64 * d ≤ 64 * (d + 1); omega⟩ ⟨show 0 + mc ≤ mc by omega, show 0 + ms ≤ ms by omega⟩ (fun v f1 H1 lc1 hp hS1 => ?_)
  obtain ⟨rfl, hp⟩ := hp
  obtain ⟨go, ho1⟩ := ho _ _ hp
  refine lv_i2l hx hb d_La_common_6 rfl ?_
  refine pw_lst X hS1 ho1 (vp_in_nI (n := 0) (by decide) (by decide)) d_La_common_7 (fun H2 lc2 hy hS2 => ?_)
  refine lv_goto (tgt := 14) hx hb d_La_common_8 (by decide) ?_
  refine lv_iconst (v := 0) hx hb d_La_common_14 (by decide) ?_
  exact pw_iret X hS2 hr ⟨rfl, f1, _, by rw [hy]; exact hp, if_pos rfl, rfl⟩ (show 0 + mc ≤ mc by omega) (show 0 + ms ≤ ms by omega) d_La_common_15
theorem d_La_out_0 : decode b_La_out 0 = .ok (.aload_n 2, 1) := by decide +kernel
theorem d_La_out_1 : decode b_La_out 1 = .ok (.iconst 0, 1) := by decide +kernel
theorem d_La_out_2 : decode b_La_out 2 = .ok (.aload_n 0, 1) := by decide +kernel
theorem d_La_out_3 : decode b_La_out 3 = .ok (.iload_n 1, 1) := by decide +kernel
theorem d_La_out_4 : decode b_La_out 4 = .ok (.invokevirtual 62, 3) := by decide +kernel
theorem d_La_out_7 : decode b_La_out 7 = .ok (.lastore, 1) := by decide +kernel
theorem d_La_out_8 : decode b_La_out 8 = .ok (.goto 6, 3) := by decide +kernel
theorem d_La_out_11 : decode b_La_out 11 = .ok (.astore_n 3, 1) := by decide +kernel
theorem d_La_out_12 : decode b_La_out 12 = .ok (.iconst 1, 1) := by decide +kernel
theorem d_La_out_13 : decode b_La_out 13 = .ok (.ireturn, 1) := by decide +kernel
theorem d_La_out_14 : decode b_La_out 14 = .ok (.iconst 0, 1) := by decide +kernel
theorem d_La_out_15 : decode b_La_out 15 = .ok (.ireturn, 1) := by decide +kernel
set_option maxHeartbeats 4000000 in
set_option maxRecDepth 100000 in
theorem v_La_out_NSE (l : Launch) (K : pw_K) (f : pw_F) (xa oa sz d mc ms : Nat) (p0 : Int32) {fs : List Value} (hx0 : f xa = some (.inr (10, fs))) {post : pw_F → Prop} (hM : pw_T l K y_D_out b_D_out 2 (some .long) (rmk d mc ms) f [.ref xa, .int p0] sz sNSE post) : pw_W l K y_La_out b_La_out 4 (some .int) [(0, 8, 11, 39)] (rmk (d + 1) mc ms) f [.ref xa, .int p0, .ref oa] sz (fun v f2 z => v = some (.int 1) ∧ post f2) := by
  refine pw_startW (by decide) (Nat.le_of_ble_eq_true rfl) ?_
  intro p e s m args below meth c ls X htab hr hz hS hl
  have hl : lv_has ls 4 [(0, .ref xa), (1, .int p0), (2, .ref oa)] := hl
  have htb := tb_of htab
  have hZ := X.2.2.2.2.2.2.2.1
  have hx := X.1
  have hb := X.2.1
  generalize s.heap = H0 at hz hS ⊢
  generalize ([] : List Loc) = lc0 at hS ⊢
  refine lv_aload_n hx hb d_La_out_0 rfl (lv_at hl 2 rfl) ?_
  refine lv_iconst (v := 0) hx hb d_La_out_1 (by decide) ?_
  refine lv_aload_n hx hb d_La_out_2 rfl (lv_at hl 0 rfl) ?_
  refine lv_iload_n hx hb d_La_out_3 rfl (lv_at hl 1 rfl) ?_
  have hpre : ∀ z ∈ ([] : List ExceptionTableEntry), covers z 4 = true ∧ z.catchType ≠ 0 ∧ ∃ E', Cond.classLink R_La z.catchType E' ∈ lw_G ∧ (Cond.not (.castable sNSE E')).before (pA K) (pZ K) = true := (fun _ h => absurd h List.not_mem_nil)
  refine pw_callVH X hS (As := [.int p0]) (rest := [.int 0, .ref oa]) hM hz w_cd_D_out w_ini_D w_ml_La_62 w_im_D_out w_se_D_out hx0 rfl hd_D_out rfl hl.1 (Nat.le_of_ble_eq_true rfl) d_La_out_4 ⟨by show d + 1 ≤ d + 1; omega, by show 8 + (2 + 11) + 64 * d ≤ 64 * (d + 1); omega⟩ ⟨show 0 + mc ≤ mc by omega, show 0 + ms ≤ ms by omega⟩ [] ⟨0, 8, 11, 39⟩ [] htb ⟨by decide, by decide, w_cl_La_39⟩ (ca_NSE K hZ).1 (ca_NSE K hZ).2 hpre (fun xe f1 H1 lc1 hp hS1 => ?_)
  refine lv_astore_n (lv' := [(3, .ref xe), (0, .ref xa), (1, .int p0), (2, .ref oa)]) hx hb d_La_out_11 rfl hl (by decide) rfl (fun ls hl => ?_)
  refine lv_iconst (v := 1) hx hb d_La_out_12 (by decide) ?_
  exact pw_iret X hS1 hr ⟨rfl, hp⟩ (show 0 + mc ≤ mc by omega) (show 0 + ms ≤ ms by omega) d_La_out_13
set_option maxHeartbeats 4000000 in
set_option maxRecDepth 100000 in
theorem v_La_out (l : Launch) (K : pw_K) (f : pw_F) (xa oa sz d mc ms : Nat) (p0 : Int32) (r : Int64) {fs : List Value} (hx0 : f xa = some (.inr (10, fs))) {post : pw_F → Nat → Prop} (hM : pw_C l K y_D_out b_D_out 2 (some .long) (rmk d mc ms) f [.ref xa, .int p0] sz (fun v f2 z => v = some (.long r) ∧ post f2 z)) (ho : ∀ f2 z, post f2 z → ∃ go : Nat → Int64, f2 oa = some (.inl (pE K 1, 1, .inr (.inl go)))) : pw_W l K y_La_out b_La_out 4 (some .int) [(0, 8, 11, 39)] (rmk (d + 1) mc ms) f [.ref xa, .int p0, .ref oa] sz (fun v f2 z => v = some (.int 0) ∧ ∃ (f1 : pw_F) (go : Nat → Int64), post f1 z ∧ go 0 = r ∧ f2 = pw_up f1 oa (.inl (pE K 1, 1, .inr (.inl go)))) := by
  refine pw_startW (by decide) (Nat.le_of_ble_eq_true rfl) ?_
  intro p e s m args below meth c ls X htab hr hz hS hl
  have hl : lv_has ls 4 [(0, .ref xa), (1, .int p0), (2, .ref oa)] := hl
  have htb := tb_of htab
  have hZ := X.2.2.2.2.2.2.2.1
  have hx := X.1
  have hb := X.2.1
  generalize s.heap = H0 at hz hS ⊢
  generalize ([] : List Loc) = lc0 at hS ⊢
  refine lv_aload_n hx hb d_La_out_0 rfl (lv_at hl 2 rfl) ?_
  refine lv_iconst (v := 0) hx hb d_La_out_1 (by decide) ?_
  refine lv_aload_n hx hb d_La_out_2 rfl (lv_at hl 0 rfl) ?_
  refine lv_iload_n hx hb d_La_out_3 rfl (lv_at hl 1 rfl) ?_
  refine pw_callV X hS (As := [.int p0]) (rest := [.int 0, .ref oa]) hM hz w_cd_D_out w_ini_D w_ml_La_62 w_im_D_out w_se_D_out hx0 rfl hd_D_out rfl hl.1 (Nat.le_of_ble_eq_true rfl) d_La_out_4 ⟨by show d + 1 ≤ d + 1; omega, by show 8 + (2 + 11) + 64 * d ≤ 64 * (d + 1); omega⟩ ⟨show 0 + mc ≤ mc by omega, show 0 + ms ≤ ms by omega⟩ (fun v f1 H1 lc1 hp hS1 => ?_)
  obtain ⟨rfl, hp⟩ := hp
  obtain ⟨go, ho1⟩ := ho _ _ hp
  refine pw_lst X hS1 ho1 (vp_in_nI (n := 0) (by decide) (by decide)) d_La_out_7 (fun H2 lc2 hy hS2 => ?_)
  refine lv_goto (tgt := 14) hx hb d_La_out_8 (by decide) ?_
  refine lv_iconst (v := 0) hx hb d_La_out_14 (by decide) ?_
  exact pw_iret X hS2 hr ⟨rfl, f1, _, by rw [hy]; exact hp, if_pos rfl, rfl⟩ (show 0 + mc ≤ mc by omega) (show 0 + ms ≤ ms by omega) d_La_out_15
