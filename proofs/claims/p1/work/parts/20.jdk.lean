/-! THE JDK'S METHODS that the class calls -/
def R_Lo : String := "java/lang/Long"
def R_Ma : String := "java/lang/Math"
def R_In : String := "java/lang/Integer"
theorem w_ini_Lo : Cond.initialized R_Lo ∈ lw_G := lw_g1 17 rfl rfl
theorem w_ini_Ma : Cond.initialized R_Ma ∈ lw_G := lw_g1 18 rfl rfl
theorem w_ini_In : Cond.initialized R_In ∈ lw_G := lw_g1 29 rfl rfl
abbrev b_Lo_signum : ByteArray := prog_20_method_57_code
def y_Lo_signum : MethodName := ⟨R_Lo, "signum", "(J)I"⟩
theorem hd_Lo_signum : y_Lo_signum.cls ≠ "java/lang/invoke/MethodHandle" ∧ y_Lo_signum.cls ≠ "java/lang/invoke/VarHandle" ∧ (parseMethodDescriptor y_Lo_signum.desc).map (fun d => d.parameters.length) = some 1 := by decide +kernel
theorem w_cd_Lo_signum : Cond.code y_Lo_signum b_Lo_signum 2 (some .int) ∈ lw_G := lw_g2 206 rfl rfl
theorem w_st_Lo_signum : Cond.static y_Lo_signum ∈ lw_G := lw_g2 205 rfl rfl
abbrev b_Ma_floorDiv : ByteArray := prog_21_method_47_code
def y_Ma_floorDiv : MethodName := ⟨R_Ma, "floorDiv", "(II)I"⟩
theorem hd_Ma_floorDiv : y_Ma_floorDiv.cls ≠ "java/lang/invoke/MethodHandle" ∧ y_Ma_floorDiv.cls ≠ "java/lang/invoke/VarHandle" ∧ (parseMethodDescriptor y_Ma_floorDiv.desc).map (fun d => d.parameters.length) = some 2 := by decide +kernel
theorem w_cd_Ma_floorDiv : Cond.code y_Ma_floorDiv b_Ma_floorDiv 3 (some .int) ∈ lw_G := lw_g4 186 rfl rfl
theorem w_st_Ma_floorDiv : Cond.static y_Ma_floorDiv ∈ lw_G := lw_g4 185 rfl rfl
abbrev b_In_numberOfLeadingZeros : ByteArray := prog_19_method_47_code
def y_In_numberOfLeadingZeros : MethodName := ⟨R_In, "numberOfLeadingZeros", "(I)I"⟩
theorem hd_In_numberOfLeadingZeros : y_In_numberOfLeadingZeros.cls ≠ "java/lang/invoke/MethodHandle" ∧ y_In_numberOfLeadingZeros.cls ≠ "java/lang/invoke/VarHandle" ∧ (parseMethodDescriptor y_In_numberOfLeadingZeros.desc).map (fun d => d.parameters.length) = some 1 := by decide +kernel
theorem w_cd_In_numberOfLeadingZeros : Cond.code y_In_numberOfLeadingZeros b_In_numberOfLeadingZeros 2 (some .int) ∈ lw_G := lw_g4 105 rfl rfl
theorem w_st_In_numberOfLeadingZeros : Cond.static y_In_numberOfLeadingZeros ∈ lw_G := lw_g4 104 rfl rfl
theorem w_st_Ma_min : Cond.static Lib.Math.min.name ∈ lw_G := lw_g2 212 rfl rfl
theorem w_cd_Ma_min : Cond.code Lib.Math.min.name Lib.Math.min.code 2 (some .int) ∈ lw_G := lw_g2 213 rfl rfl
theorem w_st_Ma_max : Cond.static Lib.Math.max.name ∈ lw_G := lw_g3 122 rfl rfl
theorem w_cd_Ma_max : Cond.code Lib.Math.max.name Lib.Math.max.code 2 (some .int) ∈ lw_G := lw_g3 123 rfl rfl
theorem w_st_Ma_abs : Cond.static Lib.Math.abs.name ∈ lw_G := lw_g4 131 rfl rfl
theorem w_cd_Ma_abs : Cond.code Lib.Math.abs.name Lib.Math.abs.code 1 (some .int) ∈ lw_G := lw_g4 132 rfl rfl
section PWJ
variable {p : Program} {l : Launch} {e : Env} {R : Room} {s : State} {m : MethodId} {args : Array Value} {below : List Frame} {meth : Method} {c : Code} {H : Heap} {locs : List Loc} {cells slots : Nat} {Q : State → Prop}
variable {cc : ByteArray} {pc nL : Nat} {ls : Array Slot} {rest st : List Value} {K : pw_K} {f : pw_F} {own : String}
theorem pw_mmin (X : pw_X p s m args meth c K own cc nL) (hls : ls.size = nL) {index : Nat} (hml : Cond.methodLink own index Lib.Math.min.name ∈ lw_G) {x y : Int32} (hdg : decode cc pc = .ok (.invokestatic index, 3)) (hR : 1 ≤ R.frames ∧ (rest.map fun v => v.category).sum + 13 ≤ R.locals) (hf : cells ≤ R.cells ∧ slots ≤ R.slots)
    (kk : W p l e R s m args below meth c H locs cells slots Q (F0 m (pc + 3) ls (.int (if y < x then y else x) :: rest))) : W p l e R s m args below meth c H locs cells slots Q (F0 m pc ls (.int y :: .int x :: rest)) := by
  obtain ⟨hx, hb, hmx, hown, hts, -, -, -, -⟩ := X
  exact va_mmin hx hb (hmx.trans hls.symm) hown (hts _ hml) (hts _ w_st_Ma_min) (hts _ w_ini_Ma) (hts _ w_cd_Ma_min) hR.1 hR.2 hf.1 hf.2 hdg kk
theorem pw_mmax (X : pw_X p s m args meth c K own cc nL) (hls : ls.size = nL) {index : Nat} (hml : Cond.methodLink own index Lib.Math.max.name ∈ lw_G) {x y : Int32} (hdg : decode cc pc = .ok (.invokestatic index, 3)) (hR : 1 ≤ R.frames ∧ (rest.map fun v => v.category).sum + 13 ≤ R.locals) (hf : cells ≤ R.cells ∧ slots ≤ R.slots)
    (kk : W p l e R s m args below meth c H locs cells slots Q (F0 m (pc + 3) ls (.int (if x < y then y else x) :: rest))) : W p l e R s m args below meth c H locs cells slots Q (F0 m pc ls (.int y :: .int x :: rest)) := by
  obtain ⟨hx, hb, hmx, hown, hts, -, -, -, -⟩ := X
  exact va_mmax hx hb (hmx.trans hls.symm) hown (hts _ hml) (hts _ w_st_Ma_max) (hts _ w_ini_Ma) (hts _ w_cd_Ma_max) hR.1 hR.2 hf.1 hf.2 hdg kk
theorem pw_mabs (X : pw_X p s m args meth c K own cc nL) (hls : ls.size = nL) {index : Nat} (hml : Cond.methodLink own index Lib.Math.abs.name ∈ lw_G) {x : Int32} (hdg : decode cc pc = .ok (.invokestatic index, 3)) (hR : 1 ≤ R.frames ∧ (rest.map fun v => v.category).sum + 13 ≤ R.locals) (hf : cells ≤ R.cells ∧ slots ≤ R.slots)
    (kk : W p l e R s m args below meth c H locs cells slots Q (F0 m (pc + 3) ls (.int (if 0 ≤ x then x else 0 - x) :: rest))) : W p l e R s m args below meth c H locs cells slots Q (F0 m pc ls (.int x :: rest)) := by
  obtain ⟨hx, hb, hmx, hown, hts, -, -, -, -⟩ := X
  exact va_mabs hx hb (hmx.trans hls.symm) hown (hts _ hml) (hts _ w_st_Ma_abs) (hts _ w_ini_Ma) (hts _ w_cd_Ma_abs) hR.1 hR.2 hf.1 hf.2 hdg kk
end PWJ
theorem d_Lo_signum_0 : decode b_Lo_signum 0 = .ok (.lload_n 0, 1) := by decide +kernel
theorem d_Lo_signum_1 : decode b_Lo_signum 1 = .ok (.bipush 63, 2) := by decide +kernel
theorem d_Lo_signum_3 : decode b_Lo_signum 3 = .ok (.lshr, 1) := by decide +kernel
theorem d_Lo_signum_4 : decode b_Lo_signum 4 = .ok (.lload_n 0, 1) := by decide +kernel
theorem d_Lo_signum_5 : decode b_Lo_signum 5 = .ok (.lneg, 1) := by decide +kernel
theorem d_Lo_signum_6 : decode b_Lo_signum 6 = .ok (.bipush 63, 2) := by decide +kernel
theorem d_Lo_signum_8 : decode b_Lo_signum 8 = .ok (.lushr, 1) := by decide +kernel
theorem d_Lo_signum_9 : decode b_Lo_signum 9 = .ok (.lor, 1) := by decide +kernel
theorem d_Lo_signum_10 : decode b_Lo_signum 10 = .ok (.l2i, 1) := by decide +kernel
theorem d_Lo_signum_11 : decode b_Lo_signum 11 = .ok (.ireturn, 1) := by decide +kernel
set_option maxHeartbeats 4000000 in
set_option maxRecDepth 100000 in
theorem r_Lo_signum (l : Launch) (K : pw_K) (f : pw_F) (sz : Nat) (v : Int64) : pw_R l K y_Lo_signum b_Lo_signum 2 (some .int) (rmk 1 0 0) f [.long v] sz (some (.int (sgI v.toInt))) := by
  refine pw_startR (by decide) (Nat.le_of_ble_eq_true rfl) ?_
  intro p e s m args below meth c ls X hr hz hS hl
  have hl : lv_has ls 2 [(0, .long v)] := hl
  have hx := X.1
  have hb := X.2.1
  refine lv_lload_n hx hb d_Lo_signum_0 rfl (lv_at hl 0 rfl) ?_
  refine lv_bipush (v := 63) hx hb d_Lo_signum_1 (by decide) ?_
  refine lv_lshr hx hb d_Lo_signum_3 rfl ?_
  refine lv_lload_n hx hb d_Lo_signum_4 rfl (lv_at hl 0 rfl) ?_
  refine lv_lneg hx hb d_Lo_signum_5 ?_
  refine lv_bipush (v := 63) hx hb d_Lo_signum_6 (by decide) ?_
  refine lv_lushr hx hb d_Lo_signum_8 rfl ?_
  refine lv_lor hx hb d_Lo_signum_9 ?_
  refine lv_l2i hx hb d_Lo_signum_10 rfl ?_
  refine lv_topi (fun yy ey => ?_)
  obtain rfl : yy = sgI v.toInt := by rw [ey]; exact u_sgn v
  clear ey
  exact pw_iretR X hr d_Lo_signum_11
