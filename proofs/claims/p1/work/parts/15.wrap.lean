/-! METHODS WITH HANDLERS (the law's own wrappers): contracts and calls; the words that a throw asks for -/
def pw_W (l : Launch) (K : pw_K) (y : MethodName) (b : ByteArray) (nL : Nat) (ret : Option FieldType) (hh : List (Nat × Nat × Nat × Nat)) (rm : Room) (f : pw_F) (av : List Value) (sz : Nat) (post : Option Value → pw_F → Nat → Prop) : Prop :=
  Met l y [Cond.codeWith y b nL ret hh] rm (pw_P K f av sz) (pw_Q K post) rm.cells rm.slots (fun q => (pZ K).heap.size ≤ q)
theorem pw_startW {l : Launch} {K : pw_K} {y : MethodName} {b : ByteArray} {nL : Nat} {ret : Option FieldType} {hh : List (Nat × Nat × Nat × Nat)} {rm : Room} {f : pw_F} {av : List Value} {sz : Nat} {post : Option Value → pw_F → Nat → Prop} (hy : plainName y.cls = true) (hn : (lg_sl av).length ≤ nL)
    (body : ∀ (p : Program) (e : Env) (s : State) (m : MethodId) (args : Array Value) (below : List Frame) (meth : Method) (c : Code) (ls : Array Slot), pw_X p s m args meth c K y.cls b nL → c.exceptionTable.toList.map (fun h => (h.startPc, h.endPc, h.handlerPc, h.catchType)) = hh → meth.sig.returnType = ret → s.heap.size = sz → pw_S K f s.heap [] → lv_has ls nL (lv_args 0 av) →
      W p l e rm s m args below meth c s.heap [] 0 0 (MQ below (pw_Q K post) args s rm.cells rm.slots (fun q => (pZ K).heap.size ≤ q)) (F0 m 0 ls [])) : pw_W l K y b nL ret hh rm f av sz post := by
  refine va_MetW (cc := b) (maxL := nL) (ret := ret) (hh := hh) hy rfl ?_
  intro p e s m args below meth c s₁ B hml hv
  obtain ⟨rfl, hsz, hP, hlo, hZ, hW⟩ := hv
  rw [lg_entry_eq]
  have hx : c.exceptionTable.toList.map (fun h => (h.startPc, h.endPc, h.handlerPc, h.catchType)) = hh := by
    obtain ⟨m9, meth9, c9, hn9, h1, h2, -, -, h3, -, -, -⟩ := Cond.codeWith_spec (atoms_spec (ws := [Cond.codeWith y b nL ret hh]) B.pre _ List.mem_cons_self)
    cases B.named.symm.trans hn9
    cases B.method.symm.trans h1
    cases (Stand.of_body B).code.symm.trans h2
    exact h3
  exact body p e s m _ below meth c _ ⟨B.exec, B.bytes, hml, findClass_of_methodNamed B.named, pw_words hZ hW, va_K.moved hW.alike hZ.2.1, ⟨B.notSynchronized, hP.1.2⟩, hZ, hW⟩ hx B.returns hsz ⟨hP, (fun x h => by cases h), (by rw [hsz]; exact hlo)⟩ (lv_entry av hn)
section PWWR
variable {p : Program} {l : Launch} {e : Env} {R : Room} {s : State} {m : MethodId} {args : Array Value} {below : List Frame} {meth : Method} {c : Code} {H : Heap} {locs : List Loc} {cells slots : Nat} {Q : State → Prop}
variable {cc : ByteArray} {pc nL : Nat} {ls : Array Slot} {rest st : List Value} {K : pw_K} {f : pw_F} {own : String}
theorem pw_callSW (X : pw_X p s m args meth c K own cc nL) (hS : pw_S K f H locs) {y : MethodName} {b : ByteArray} {nL' index sz : Nat} {As : List Value} {ret : Option FieldType} {hh : List (Nat × Nat × Nat × Nat)} {rm : Room} {post : Option Value → pw_F → Nat → Prop}
    (hM : pw_W l K y b nL' ret hh rm f As sz post) (hz : H.size = sz) (hcd : Cond.codeWith y b nL' ret hh ∈ lw_G) (hini : Cond.initialized y.cls ∈ lw_G) (hml : Cond.methodLink own index y ∈ lw_G) (hss : Cond.static y ∈ lw_G)
    (hd : y.cls ≠ "java/lang/invoke/MethodHandle" ∧ y.cls ≠ "java/lang/invoke/VarHandle" ∧ (parseMethodDescriptor y.desc).map (fun d => d.parameters.length) = some As.length)
    (hst : st = As.reverse ++ rest) (hls : ls.size = nL) (hrest : (rest.map fun v => v.category).sum ≤ 8) (hdg : decode cc pc = .ok (.invokestatic index, 3)) (hR : rm.frames + 1 ≤ R.frames ∧ 8 + (nL' + 11) + rm.locals ≤ R.locals) (hf : cells + rm.cells ≤ R.cells ∧ slots + rm.slots ≤ R.slots)
    (kk : ∀ (v : Option Value) (f' : pw_F) (H1 : Heap) (locs1 : List Loc), post v f' H1.size → pw_S K f' H1 locs1 → W p l e R s m args below meth c H1 locs1 (cells + rm.cells) (slots + rm.slots) Q (F0 m (pc + 3) ls (v.toList ++ rest))) : W p l e R s m args below meth c H locs cells slots Q (F0 m pc ls st) := by
  have X0 := X
  obtain ⟨hx, hb, hmx, hown, hts, hK, -, hZ, hW⟩ := X
  refine pw_goes (Qa := fun _ _ _ => True) (av := As.toArray) (mc := rm.cells) (ms := rm.slots) (rest := rest) hS ?_ kk
  have hB : Back l R p e below s args y 3 8 (PreOf R rm.cells rm.slots (pw_P K f As sz)) (PostOf (pw_Q K post) rm.cells rm.slots (fun q => (pZ K).heap.size ≤ q)) :=
    va_backW (hh := hh) (bytes := b) (maxL := nL') (ret := ret) hM pw_blind rfl rfl hR.1 hR.2 (fun w hw a' U hU => by rw [List.mem_singleton.mp hw]; exact word_at hU (good_of_word (List.mem_filter.mp hcd).2) (hts _ hcd)) (List.mem_singleton.mpr rfl) (fun a' U hU => word_at hU (good_of_word (List.mem_filter.mp hini).2) (hts _ hini))
  intro T hT XT
  obtain ⟨mk, methM, cM, hnamed, hmethM, -, -, -, -, -, -, hsigM⟩ := Cond.codeWith_spec (hts _ hcd)
  have hstatic : methM.isStatic = true := Cond.static_spec hnamed hmethM (hts _ hss)
  obtain ⟨kP, hkP, -⟩ := className_of_methodNamed hnamed
  have hinitP : kP.init = .initialized := Cond.initialized_spec (findClass_of_methodNamed hnamed) hkP (hts _ hini)
  have hlen : As.length = methM.sig.parameters.length := by
    have h2 := hd.2.2
    rw [hsigM] at h2
    exact (Option.some.inj h2).symm
  obtain ⟨vm₁, X₁, hstep₁⟩ := XT.invokestatic hx hown (hts _ hml) hnamed hmethM hstatic hkP hinitP ⟨hd.1, hd.2.1⟩ (g := F0 m pc ls st) rfl (argsL := As) (rest := rest) hlen hst (by rw [hb]; exact hdg)
  obtain ⟨v, ⟨U', l2, c2, s2⟩, X', ⟨g', mk', t, L, e1, e2, hq, h1, hL, h2, h3⟩, hsteps⟩ := hB m meth c ⟨T.setVm vm₁, locs, cells, slots⟩ { F0 m pc ls st with stack := rest } (.invokestatic index) mk As.toArray X₁ rfl (hls.trans hmx.symm) (by rw [hb]; exact hdg) (by simpa [JFrame.monitorRoom] using hrest) (X₁.named hnamed) ⟨hf.1, hf.2, pw_pre X0 hS hz (T.setVm vm₁) hT X₁.warmed⟩
  dsimp only [Pt.U, Pt.locs, Pt.cells, Pt.slots] at X' e1 e2 h1 h2 h3 hsteps
  subst h1; subst h2; subst h3
  exact ⟨v, (T.setVm vm₁).calling g' mk' As.toArray, t, U', L, hT, X', hL, e1, e2, hq, fun target hh2 => hstep₁ _ fun acts => by rw [doInvoke_state]; exact hsteps.trans hh2⟩
def at_ok (w : Cond) : Bool := (decide (w ∈ lw_tbl) && goodWord w) || (match w with
  | .laysStatic C n d => decide (Cond.laysStatic C n d ∈ lw_tbl)
  | .declares x => decide (Cond.declares x ∈ lw_tbl)
  | .castable C T => decide (Cond.castable C T ∈ lw_tbl)
  | .isRef (.static C n d) => decide (Cond.isRef (.static C n d) ∈ flatC (Jvm.Cond.and given_1 narrow_1)) && decide (Cond.laysStatic C n d ∈ lw_tbl)
  | _ => false)
theorem at_use (X : pw_X p s m args meth c K own cc nL) (hS : pw_S K f s.heap locs) {w : Cond} (h : at_ok w = true) : w.before args s = true := by
  obtain ⟨-, -, -, -, hts, -, -, hZ, hW⟩ := X
  unfold at_ok at h
  rw [Bool.or_eq_true] at h
  rcases h with h | h
  · simp only [Bool.and_eq_true, decide_eq_true_eq] at h
    exact hts w (List.mem_filter.mpr ⟨h.1, h.2⟩)
  · split at h
    · exact pw_lays hW hS.1.1.1 (hZ.1 _ (of_decide_eq_true h))
    · exact va_Nw.use rfl (va_Nw.warmD hW (va_Nw.of rfl (hZ.1 _ (of_decide_eq_true h))))
    · exact va_Nw.use rfl (va_Nw.warmC hW (va_Nw.of rfl (hZ.1 _ (of_decide_eq_true h))))
    · simp only [Bool.and_eq_true, decide_eq_true_eq] at h
      exact pw_isRef hW hS.1.1.1 (hZ.1 _ h.2) (flat_of_before _ hZ.2.2 _ h.1)
    · cases h
theorem at_all (X : pw_X p s m args meth c K own cc nL) (hS : pw_S K f s.heap locs) {ws : List Cond} (h : ∀ w ∈ ws, w ∈ lw_G ∨ at_ok w = true) : ∀ w ∈ ws, w.before args s = true := fun w hw => (h w hw).elim (X.2.2.2.2.1 w) (at_use X hS)
end PWWR
def at_C : Cond → Bool
  | .code .. => true
  | .codeSync .. => true
  | _ => false
theorem at_split {ws : List Cond} (ps : List Nat) (h1 : ws.filter at_C = ps.filterMap (fun i => tables_1[i]?)) (h2 : (ws.filter at_C).all goodWord = true) (h3 : (ws.filter (fun w => !at_C w)).all at_ok = true) : ∀ w ∈ ws, w ∈ lw_G ∨ at_ok w = true := by
  intro w hw
  by_cases hc : at_C w = true
  · have h4 : w ∈ ws.filter at_C := List.mem_filter.mpr ⟨hw, hc⟩
    refine Or.inl (List.mem_filter.mpr ⟨?_, List.all_eq_true.mp h2 w h4⟩)
    rw [h1] at h4
    obtain ⟨i, -, hi⟩ := List.mem_filterMap.mp h4
    exact lw_at i hi
  · exact Or.inr (List.all_eq_true.mp h3 w (List.mem_filter.mpr ⟨hw, by simpa using hc⟩))
set_option maxRecDepth 20000 in
theorem at_IAE : ∀ w ∈ Bundle.ownAtoms R_D 45 "java/lang/IllegalArgumentException" ["java/lang/RuntimeException", "java/lang/Exception"], w ∈ lw_G ∨ at_ok w = true := at_split [402, 391, 38, 420, 411, 414, 417] rfl rfl (by decide +kernel)
set_option maxRecDepth 20000 in
theorem at_ISE : ∀ w ∈ Bundle.ownAtoms R_D 181 "java/lang/IllegalStateException" ["java/lang/RuntimeException", "java/lang/Exception"], w ∈ lw_G ∨ at_ok w = true := at_split [402, 391, 38, 420, 485, 414, 417] rfl rfl (by decide +kernel)
theorem at_inI : at_ok (.initialized "java/lang/IllegalArgumentException") = true ∧ at_ok (.initialized "java/lang/IllegalStateException") = true ∧ at_ok (.initialized "java/util/NoSuchElementException") = true := by decide +kernel
theorem at_inS : at_ok (.instantiable "java/lang/IllegalArgumentException" 6) = true ∧ at_ok (.instantiable "java/lang/IllegalStateException" 6) = true ∧ at_ok (.instantiable "java/util/NoSuchElementException" 6) = true := by decide +kernel
theorem st_D {K : pw_K} (hZ : pw_Z K) : (∃ q, vk_R R_D 173 "no such polynomial" q (pZ K)) ∧ (∃ q, vk_R R_D 43 "no such coefficient" q (pZ K)) ∧ (∃ q, vk_R R_D 175 "no such point" q (pZ K)) ∧ (∃ q, vk_R R_D 179 "the polynomial is none" q (pZ K)) ∧ (∃ q, vk_R R_D 182 "no such root" q (pZ K)) ∧ (∃ q, vk_R R_D 166 "no such byte" q (pZ K)) ∧ (∃ q, vk_R R_D 128 "no such count of digits" q (pZ K)) := by
  have hs := flat_of_before _ hZ.2.2
  exact ⟨pw_str (hZ.1 _ w_sr_D_173) (hs _ (by decide +kernel)), pw_str (hZ.1 _ w_sr_D_43) (hs _ (by decide +kernel)), pw_str (hZ.1 _ w_sr_D_175) (hs _ (by decide +kernel)), pw_str (hZ.1 _ w_sr_D_179) (hs _ (by decide +kernel)), pw_str (hZ.1 _ w_sr_D_182) (hs _ (by decide +kernel)), pw_str (hZ.1 _ w_sr_D_166) (hs _ (by decide +kernel)), pw_str (hZ.1 _ w_sr_D_128) (hs _ (by decide +kernel))⟩
