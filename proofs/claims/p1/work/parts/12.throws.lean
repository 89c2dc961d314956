/-! THROWING: contracts of calls that throw, the rows 'throw new E(text)', a call that throws on, a call whose throw is caught -/
def MetT (l : Launch) (y : MethodName) (ws : List Cond) (rm : Room) (Pc : Array Value → State → Prop) (Qc : Array Value → State → Outcome → State → Prop) (mc ms : Nat) (free : Addr → Prop) : Prop :=
  MetFree l y (headSpec ws rm) Pc (fun _ _ _ _ _ => True) (fun a st o t => ∃ x, o = .threw x ∧ Qc a st o t ∧ ∃ L, st.WarmedH t.vm ∧ st.sameButNew ({ t with vm := st.vm } : State) L mc ms ∧ ∀ q ∈ L, free q.base)
def MQT (below : List Frame) (Qc : Array Value → State → Outcome → State → Prop) (a : Array Value) (s : State) (mc ms : Nat) (free : Addr → Prop) : State → Prop := fun t =>
  ∃ x, t.status = .running ∧ Ended t below (.threw x) ∧ Qc a s (.threw x) t ∧ ∃ L, s.WarmedH t.vm ∧ s.sameButNew ({ t with vm := s.vm } : State) L mc ms ∧ ∀ q ∈ L, free q.base
theorem MetT.ofW {l : Launch} {y : MethodName} {ws ws' : List Cond} {rm : Room} {Pc : Array Value → State → Prop} {Qc : Array Value → State → Outcome → State → Prop} {mc ms : Nat} {free : Addr → Prop} {cc : ByteArray} {maxL : Nat} {ret : Option FieldType}
    (hy : plainName y.cls = true) (hw : ws = Cond.code y cc maxL ret :: ws')
    (body : ∀ p e s m args below meth c s₁, BodyLoose p l y (headSpec ws rm) cc maxL ret e s m args below meth c s₁ → c.maxLocals = maxL → Pc args s →
      W p l e (headSpec ws rm).room s m args below meth c s.heap [] 0 0 (MQT below Qc args s mc ms free) (entryFrame m args maxL)) : MetT l y ws rm Pc Qc mc ms free := by
  refine MetFree.of_bodyS (code := cc) (maxLocals := maxL) (ret := ret) hy ?_ ?_
  · intro args s m h hn
    obtain ⟨meth, c, h1, h2, h3, h4, h5, h6, -, -⟩ := Cond.code_spec hn (atoms_spec (ws := ws) h _ (by rw [hw]; exact List.mem_cons_self))
    exact ⟨meth, c, h1, h2, h3, h4, h5, h6⟩
  · intro p e s m args below meth c s₁ B hml hP _
    have hh0 : s₁.heap = s.heap := by rw [B.state]; rfl
    obtain ⟨t, a1, x, b1, b2, b3, b4⟩ := body p e s m args below meth c s₁ B hml hP s₁ hh0 (Stand.of_body B)
    exact ⟨t, .threw x, a1, b1, b2, x, rfl, b3, b4⟩
/-- the exception: an object of class E, none of the world's cells -/
def pw_E (K : pw_K) (E : String) (x : Nat) (t : State) : Prop := ∃ cell : Cell, t.heap[x]? = some cell ∧ (pZ K).vm.findClass E = some cell.cls ∧ cell.vm = .none
def pw_QT (K : pw_K) (E : String) (post : pw_F → Prop) : Array Value → State → Outcome → State → Prop := fun _ _ o t => ∃ (x : Nat) (f' : pw_F), o = .threw x ∧ pw_E K E x t ∧ post f' ∧ pw_at K f' t.heap ∧ (pZ K).heap.size ≤ t.heap.size
/-- method y throws an E, and leaves a world with 'post' -/
def pw_T (l : Launch) (K : pw_K) (y : MethodName) (b : ByteArray) (nL : Nat) (ret : Option FieldType) (rm : Room) (f : pw_F) (av : List Value) (sz : Nat) (E : String) (post : pw_F → Prop) : Prop :=
  MetT l y [Cond.code y b nL ret] rm (pw_P K f av sz) (pw_QT K E post) rm.cells rm.slots (fun q => (pZ K).heap.size ≤ q)
theorem pw_startT {l : Launch} {K : pw_K} {y : MethodName} {b : ByteArray} {nL : Nat} {ret : Option FieldType} {rm : Room} {f : pw_F} {av : List Value} {sz : Nat} {E : String} {post : pw_F → Prop} (hy : plainName y.cls = true) (hn : (lg_sl av).length ≤ nL)
    (body : ∀ (p : Program) (e : Env) (s : State) (m : MethodId) (args : Array Value) (below : List Frame) (meth : Method) (c : Code) (ls : Array Slot), pw_X p s m args meth c K y.cls b nL → c.exceptionTable.isEmpty = true → (∀ q : Nat, q < (pZ K).heap.size → s.heap[q]? = (pZ K).heap[q]?) → s.heap.size = sz → pw_S K f s.heap [] → lv_has ls nL (lv_args 0 av) →
      W p l e rm s m args below meth c s.heap [] 0 0 (MQT below (pw_QT K E post) args s rm.cells rm.slots (fun q => (pZ K).heap.size ≤ q)) (F0 m 0 ls [])) : pw_T l K y b nL ret rm f av sz E post := by
  refine MetT.ofW (cc := b) (maxL := nL) (ret := ret) hy rfl ?_
  intro p e s m args below meth c s₁ B hml hv
  obtain ⟨rfl, hsz, hP, hlo, hZ, hW⟩ := hv
  rw [lg_entry_eq]
  refine body p e s m _ below meth c _ ⟨B.exec, B.bytes, hml, findClass_of_methodNamed B.named, pw_words hZ hW, va_K.moved hW.alike hZ.2.1, ⟨B.notSynchronized, hP.1.2⟩, hZ, hW⟩ (BodyLoose.noHandlers B (atoms_spec (ws := [Cond.code y b nL ret]) B.pre _ List.mem_cons_self)) hP.1.1 hsz ⟨hP, (fun x h => by cases h), (by rw [hsz]; exact hlo)⟩ (lv_entry av hn)
-- words on statics, at any later state whose old cells are those of the start
theorem pw_lays {Z s : State} {A A' : Array Value} {C n d : String} (hW : Z.WarmedH s.vm) (hh : ∀ q : Nat, q < Z.heap.size → s.heap[q]? = Z.heap[q]?) (h : (Cond.laysStatic C n d).before A Z = true) : (Cond.laysStatic C n d).before A' s = true := by
  obtain ⟨c, k, i, f, a, cell, hc, hi, hst, ha, hcell, hs, hcls, hlt, hty⟩ := Cond.laysStatic_spec h
  obtain ⟨k', hi', he⟩ := State.fieldFound?_setVm hW.alike hi
  have hi2 : s.fieldFound? C n d = some (c, k', i, f) := hi'
  have hc2 : s.vm.findClass C = some c := by rw [hW.alike.findClass]; exact hc
  have ha2 : k'.statics = some a := by rw [he]; exact ha
  have hcell2 : s.heap[a]? = some cell := by rw [hh a (Array.getElem?_eq_some_iff.mp hcell).1]; exact hcell
  have hty2 : k'.staticTypes[f.slot]? = some f.type := by rw [he]; exact hty
  simp [Cond.before, Cond.holds, Cond.value, hc2, hi2, ha2, hcell2, hst, hs, hcls, hlt, hty2]
theorem pw_isRef {Z s : State} {A A' : Array Value} {C n d : String} (hW : Z.WarmedH s.vm) (hh : ∀ q : Nat, q < Z.heap.size → s.heap[q]? = Z.heap[q]?) (hl : (Cond.laysStatic C n d).before A Z = true) (h : (Cond.isRef (.static C n d)).before A Z = true) : (Cond.isRef (.static C n d)).before A' s = true := by
  obtain ⟨c, k, i, f, a, cell, hc, hi, hst, ha, hcell, hs, hcls, hlt, hty⟩ := Cond.laysStatic_spec hl
  obtain ⟨k', hi', he⟩ := State.fieldFound?_setVm hW.alike hi
  have hi2 : s.fieldFound? C n d = some (c, k', i, f) := hi'
  have ha2 : k'.statics = some a := by rw [he]; exact ha
  have hcell2 : s.heap[a]? = some cell := by rw [hh a (Array.getElem?_eq_some_iff.mp hcell).1]; exact hcell
  simp only [Cond.before, Cond.holds, Cond.value, Term.eval, State.fieldNamed?, hi, hst, ha, hcell, hs, Option.bind_eq_bind, Option.bind_some, beq_self_eq_true, if_true, Option.pure_def] at h
  simp only [Cond.before, Cond.holds, Cond.value, Term.eval, State.fieldNamed?, hi2, hst, ha2, hcell2, hs, Option.bind_eq_bind, Option.bind_some, beq_self_eq_true, if_true, Option.pure_def]
  exact h
theorem pw_str {Z : State} {A : Array Value} {own tx : String} {k : Nat} (h1 : (Cond.stringRef own k tx).before A Z = true) (h2 : (Cond.exactly (.string own k) "java/lang/String").before A Z = true) : ∃ q, vk_R own k tx q Z := by
  obtain ⟨a, -, -, -, hv, -⟩ := Cond.exactly_spec h2
  exact ⟨a, vk_R.of h1 hv⟩
-- methods that only read
def roQ (r : Option Value) : Array Value → State → Outcome → State → Prop := fun _ st o t => o = .returned r ∧ t.heap = st.heap
def pw_R (l : Launch) (K : pw_K) (y : MethodName) (b : ByteArray) (nL : Nat) (ret : Option FieldType) (rm : Room) (f : pw_F) (av : List Value) (sz : Nat) (r : Option Value) : Prop :=
  Met l y [Cond.code y b nL ret] rm (pw_P K f av sz) (roQ r) rm.cells rm.slots (fun _ => False)
theorem pw_startR {l : Launch} {K : pw_K} {y : MethodName} {b : ByteArray} {nL : Nat} {ret : Option FieldType} {rm : Room} {f : pw_F} {av : List Value} {sz : Nat} {r : Option Value} (hy : plainName y.cls = true) (hn : (lg_sl av).length ≤ nL)
    (body : ∀ (p : Program) (e : Env) (s : State) (m : MethodId) (args : Array Value) (below : List Frame) (meth : Method) (c : Code) (ls : Array Slot), pw_X p s m args meth c K y.cls b nL → meth.sig.returnType = ret → s.heap.size = sz → pw_S K f s.heap [] → lv_has ls nL (lv_args 0 av) →
      W p l e rm s m args below meth c s.heap [] 0 0 (MQ below (roQ r) args s rm.cells rm.slots (fun _ => False)) (F0 m 0 ls [])) : pw_R l K y b nL ret rm f av sz r := by
  refine Met.ofW (cc := b) (maxL := nL) (ret := ret) hy rfl ?_
  intro p e s m args below meth c s₁ B hml hv
  obtain ⟨rfl, hsz, hP, hlo, hZ, hW⟩ := hv
  rw [lg_entry_eq]
  refine body p e s m _ below meth c _ ⟨B.exec, B.bytes, hml, findClass_of_methodNamed B.named, pw_words hZ hW, va_K.moved hW.alike hZ.2.1, ⟨B.notSynchronized, hP.1.2⟩, hZ, hW⟩ B.returns hsz ⟨hP, (fun x h => by cases h), (by rw [hsz]; exact hlo)⟩ (lv_entry av hn)
section PWT
variable {p : Program} {l : Launch} {e : Env} {R : Room} {s : State} {m : MethodId} {args : Array Value} {below : List Frame} {meth : Method} {c : Code} {H : Heap} {locs : List Loc} {cells slots : Nat} {Q : State → Prop}
variable {cc : ByteArray} {pc nL : Nat} {ls : Array Slot} {rest st : List Value} {K : pw_K} {f : pw_F} {own : String}
theorem pw_vretR (X : pw_X p s m args meth c K own cc nL) (hr : meth.sig.returnType = none) (hdg : decode cc pc = .ok (.return_, 1)) : W p l e R s m args below meth c s.heap [] 0 0 (MQ below (roQ none) args s 0 0 (fun _ => False)) (F0 m pc ls []) := by
  obtain ⟨hx, hb, -, -, -, -, ⟨hlk, -⟩, -, -⟩ := X
  exact W.vret hx hb hr (fun t ht hW => ⟨rfl, ht⟩) (fun q h => by cases h) hdg
theorem pw_iretR (X : pw_X p s m args meth c K own cc nL) {v : Int32} (hr : meth.sig.returnType = some .int) (hdg : decode cc pc = .ok (.ireturn, 1)) : W p l e R s m args below meth c s.heap [] 0 0 (MQ below (roQ (some (.int v))) args s 0 0 (fun _ => False)) (F0 m pc ls [.int v]) := by
  obtain ⟨hx, hb, -, -, -, -, ⟨hlk, -⟩, -, -⟩ := X
  exact W.iret hx hb hr (fun t ht hW => ⟨rfl, ht⟩) (fun q h => by cases h) hdg
theorem pw_zretR (X : pw_X p s m args meth c K own cc nL) {v : Int32} (hr : meth.sig.returnType = some .boolean) (hn : narrow .boolean (.int v) = .int v) (hdg : decode cc pc = .ok (.ireturn, 1)) : W p l e R s m args below meth c s.heap [] 0 0 (MQ below (roQ (some (.int v))) args s 0 0 (fun _ => False)) (F0 m pc ls [.int v]) := by
  obtain ⟨hx, hb, -, -, -, -, ⟨hlk, -⟩, -, -⟩ := X
  exact W.zret hx hb hr hn (fun t ht hW => ⟨rfl, ht⟩) (fun q h => by cases h) hdg
theorem pw_goesR {r : Option Value} {av : Array Value} (hr : va_Run p l e R s m args below meth c H locs cells slots 0 0 (F0 m pc ls st) rest (roQ r av) (fun _ => False))
    (kk : W p l e R s m args below meth c H locs cells slots Q (F0 m (pc + 3) ls (r.toList ++ rest))) : W p l e R s m args below meth c H locs cells slots Q (F0 m pc ls st) := by
  intro T hT X
  obtain ⟨v, st₀, t, T', L, h0, X', hL, e1, e2, ⟨hv, hh⟩, hgo⟩ := hr T hT X
  cases hv
  obtain ⟨t2, a1, b1⟩ := kk T' (by rw [e1, hh, h0]) (Stand.forget X' (fun q h => (hL q h).elim))
  exact ⟨t2, hgo t2 a1, b1⟩
theorem pw_callVR (X : pw_X p s m args meth c K own cc nL) (hS : pw_S K f H locs) {y : MethodName} {b : ByteArray} {nL' index sz a ci N : Nat} {C : String} {T : u_T} {fs As : List Value} {ret : Option FieldType} {d : Nat} {r : Option Value}
    (hM : pw_R l K y b nL' ret (rmk d 0 0) f (.ref a :: As) sz r) (hz : H.size = sz) (hcd : Cond.code y b nL' ret ∈ lw_G) (hini : Cond.initialized y.cls ∈ lw_G) (hml : Cond.methodLink own index y ∈ lw_G) (him : Cond.instanceMethod y ∈ lw_G) (hse : Cond.selects C y y ∈ lw_G)
    (ha : f a = some (.inr (ci, fs))) (hc : cls[ci]? = some (C, T, N)) (hd : y.cls ≠ "java/lang/invoke/MethodHandle" ∧ y.cls ≠ "java/lang/invoke/VarHandle" ∧ (parseMethodDescriptor y.desc).map (fun d => d.parameters.length) = some As.length)
    (hst : st = As.reverse ++ .ref a :: rest) (hls : ls.size = nL) (hrest : (rest.map fun v => v.category).sum ≤ 8) (hdg : decode cc pc = .ok (.invokevirtual index, 3)) (hR : d + 1 ≤ R.frames ∧ 8 + (nL' + 11) + 64 * d ≤ R.locals) (hf : cells ≤ R.cells ∧ slots ≤ R.slots)
    (kk : W p l e R s m args below meth c H locs cells slots Q (F0 m (pc + 3) ls (r.toList ++ rest))) : W p l e R s m args below meth c H locs cells slots Q (F0 m pc ls st) := by
  have X0 := X
  obtain ⟨hx, hb, hmx, hown, hts, hK, -, hZ, hW⟩ := X
  exact pw_goesR (va_runV (As := As) ⟨hx, hb, hmx, hown, hts⟩ hM ⟨pw_callB X0 hcd hini hml hd hR, hts _ him, hts _ hse⟩ ⟨pw_blind, va_recv hK (pw_one hS.1 ha) (q0 := 0) hc rfl, pw_pre X0 hS hz⟩ rfl rfl hls hst (by simpa [JFrame.monitorRoom] using hrest) hdg hf) kk
theorem pw_callSR (X : pw_X p s m args meth c K own cc nL) (hS : pw_S K f H locs) {y : MethodName} {b : ByteArray} {nL' index sz : Nat} {As : List Value} {ret : Option FieldType} {d : Nat} {r : Option Value}
    (hM : pw_R l K y b nL' ret (rmk d 0 0) f As sz r) (hz : H.size = sz) (hcd : Cond.code y b nL' ret ∈ lw_G) (hini : Cond.initialized y.cls ∈ lw_G) (hml : Cond.methodLink own index y ∈ lw_G) (hss : Cond.static y ∈ lw_G)
    (hd : y.cls ≠ "java/lang/invoke/MethodHandle" ∧ y.cls ≠ "java/lang/invoke/VarHandle" ∧ (parseMethodDescriptor y.desc).map (fun d => d.parameters.length) = some As.length)
    (hst : st = As.reverse ++ rest) (hls : ls.size = nL) (hrest : (rest.map fun v => v.category).sum ≤ 8) (hdg : decode cc pc = .ok (.invokestatic index, 3)) (hR : d + 1 ≤ R.frames ∧ 8 + (nL' + 11) + 64 * d ≤ R.locals) (hf : cells ≤ R.cells ∧ slots ≤ R.slots)
    (kk : W p l e R s m args below meth c H locs cells slots Q (F0 m (pc + 3) ls (r.toList ++ rest))) : W p l e R s m args below meth c H locs cells slots Q (F0 m pc ls st) := by
  have X0 := X
  obtain ⟨hx, hb, hmx, hown, hts, hK, -, hZ, hW⟩ := X
  exact pw_goesR (va_runS (As := As) ⟨hx, hb, hmx, hown, hts⟩ hM ⟨pw_callB X0 hcd hini hml hd hR, hts _ hss⟩ ⟨pw_blind, pw_pre X0 hS hz⟩ rfl rfl hls hst (by simpa [JFrame.monitorRoom] using hrest) hdg hf) kk
/-- old cells of which no place was written are what they were -/
theorem pw_same {s t : State} {n k : Nat} (h : s.sameButNew t [] n k) {q : Nat} (hq : q < s.heap.size) : t.heap[q]? = s.heap[q]? := by
  obtain ⟨cell, hc⟩ : ∃ cell, s.heap[q]? = some cell := ⟨_, Array.getElem?_eq_some_iff.mpr ⟨hq, rfl⟩⟩
  obtain ⟨c', h1, h2, h3, h4⟩ := h.2.2.2.2.2 q cell hc
  rw [h1, hc, h2]
  have e1 : c'.slots = cell.slots := Array.ext_getElem? (fun i => h4 i (fun z => by cases z))
  rw [e1]
set_option maxHeartbeats 2000000 in
theorem pw_throw (hfl : l.flags = pinnedFlags ++ [noTraceFlag]) (X : pw_X p s m args meth c K own cc nL) (hne : c.exceptionTable.isEmpty = true) (hS : pw_S K f s.heap []) (hls : ls.size = nL) {ix is ic : Nat} {E tx : String} {names : List String} (hcl : Cond.classLink own ix E ∈ lw_G) (hins : (Cond.instantiable E 6).before args s = true) (hini : (Cond.initialized E).before args s = true) (hstr : ∃ q, vk_R own is tx q (pZ K))
    (hat : ∀ w ∈ Bundle.ownAtoms own ic E names, w.before args s = true) (hE : Bundle.fit E = true) (hnm : ∀ n ∈ names, Bundle.fit n = true) (d0 : decode cc pc = .ok (.new ix, 3)) (d3 : decode cc (pc + 3) = .ok (.dup, 1)) (d4 : decode cc (pc + 4) = .ok (.ldc is, 2)) (d6 : decode cc (pc + 6) = .ok (.invokespecial ic, 3)) (d9 : decode cc (pc + 9) = .ok (.athrow, 1))
    {post : pw_F → Prop} (hp : post f) {mc ms : Nat} (h1 : 0 + 1 ≤ mc) (h2 : 0 + 6 ≤ ms) (hRc : 0 + 1 ≤ R.cells) (hRs : 0 + 6 ≤ R.slots) (hRf : names.length + 3 < R.frames) (hRl : 13 * (names.length + 1) + 60 ≤ R.locals) :
    W p l e R s m args below meth c s.heap [] 0 0 (MQT below (pw_QT K E post) args s mc ms (fun q => (pZ K).heap.size ≤ q)) (F0 m pc ls []) := by
  obtain ⟨hx, hb, hml, hown, hts, hK, ⟨hlk, hns⟩, hZ, hW⟩ := X
  obtain ⟨q, hq⟩ := hstr
  refine W.newc hx hb hown (hts _ hcl) hins hini rfl d0 hRc hRs (fun cC kC e1 e2 e3 e4 => ?_)
  refine lv_dup (pc := pc + 3) (ls := ls) (rest := []) hx hb d3 rfl ?_
  refine va_ldcS hx hb hown (hq.warm hW) d4 ?_
  intro T hT XT
  have htr := Launch.traces_off hfl XT.admits
  have hcell : T.heap[s.heap.size]? = some (freshCell cC kC) := by rw [hT]; simp
  have hemp : c.exceptionTable.toList = [] := by
    have : c.exceptionTable = #[] := by simpa using hne
    rw [this]
  obtain ⟨U, hst, hrun, hend, hWU, hsame, ce, hce, hO⟩ := XT.ctorThrowS hx htr hown hE hnm hat (fun x h => by cases h) e1 e2 hcell (Nat.le_refl _) (msg := .ref q) rfl (g := F0 m (pc + 6) ls [.ref q, .ref s.heap.size, .ref s.heap.size]) rfl (by rw [hml]; exact hls) rfl rfl (rest := []) rfl (by rw [hb]; exact d6) (by rw [hb]; exact d9) (by rw [hemp]; intro x h; cases h) hRf (by simp [JFrame.monitorRoom, Value.category]; omega)
  have hk : ∀ x : Nat, x < s.heap.size → U.heap[x]? = s.heap[x]? := fun x hx2 => pw_same hsame hx2
  have hsz : s.heap.size ≤ U.heap.size := hsame.2.1
  refine ⟨U, hst, s.heap.size, hrun, hend, ⟨s.heap.size, f, rfl, ⟨ce, hce, (by rw [← hW.alike.findClass]; exact hO.cls), hO.vm⟩, hp, ?_, Nat.le_trans hS.2.2 hsz⟩, [], hWU, hsame.mono h1 h2, (fun x h => by cases h)⟩
  refine ⟨⟨fun x hx2 => (hk x (Nat.lt_of_lt_of_le hx2 hS.2.2)).trans (hS.1.1.1 x hx2), fun x cell hx2 hc => ?_⟩, fun x y hy => ⟨(hS.1.2 x y hy).1, (hS.1.2 x y hy).2.kept (hk x (hS.1.2 x y hy).2.lt)⟩⟩
  by_cases hlt : x < s.heap.size
  · exact hS.1.1.2 x cell hx2 ((hk x hlt).symm.trans hc)
  · have hlt2 : x < U.heap.size := (Array.getElem?_eq_some_iff.mp hc).1
    have hz3 : U.heap.size ≤ s.heap.size + (0 + 1) := hsame.2.2.1
    have hx3 : x = s.heap.size := by omega
    subst hx3
    cases hce.symm.trans hc
    rw [hO.vm]; rfl
end PWT
