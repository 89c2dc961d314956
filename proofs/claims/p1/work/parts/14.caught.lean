/-! A CALL WHOSE THROW IS CAUGHT: the catch types may be linked here for the first time -/
/-- an entry that the search passes: it covers the place, and its class doesn't take the object -/
def ct_pass (pl : Platform) (s0 : State) (d : ClassId) (k : ClassId) (pc : Nat) (y : ExceptionTableEntry) : Prop := covers y pc = true ∧ y.catchType ≠ 0 ∧ ∃ c, s0.vm.ClassLinks pl d y.catchType c ∧ s0.vm.assignable k c = false
def ct_take (pl : Platform) (s0 : State) (d : ClassId) (k : ClassId) (pc : Nat) (y : ExceptionTableEntry) : Prop := covers y pc = true ∧ y.catchType ≠ 0 ∧ ∃ c, s0.vm.ClassLinks pl d y.catchType c ∧ s0.vm.assignable k c = true
theorem ct_step {e : Env} {S s0 : State} {fr : JFrame} {a : Addr} {cell : Cell} {x : ExceptionTableEntry} {t : List ExceptionTableEntry} {c : ClassId} (hW : s0.WarmedH S.vm) (hx : covers x fr.pc = true) (h0 : x.catchType ≠ 0) (hl : s0.vm.ClassLinks e.platform fr.method.cls x.catchType c) (hcell : S.heap[a]? = some cell) (hobj : ∀ k, cell.vm ≠ .statics k) (hk : ∃ k, s0.vm.classes[cell.cls]? = some k) (Q : Handler → Pre) (E : CtlPost) (d : Bool) (acts : List Action) :
    (s0.vm.assignable cell.cls c = true → (wp (findHandler.go fr a (x :: t)) Q E e d acts S ↔ Q (.found x.handlerPc) d acts (S.setVm (S.vm.noted fr.method.cls x.catchType (.cls c))))) ∧
    (s0.vm.assignable cell.cls c = false → (wp (findHandler.go fr a (x :: t)) Q E e d acts S ↔ wp (findHandler.go fr a t) Q E e d acts (S.setVm (S.vm.noted fr.method.cls x.catchType (.cls c))))) := by
  simp only [covers] at hx
  obtain ⟨ha, ht⟩ := (resolveClass_links e.toSetting (hW.classLinks hl)).op (op := VmOp.resolveClass fr.method.cls x.catchType) rfl
  have hal : s0.vm.Alike (S.vm.noted fr.method.cls x.catchType (.cls c)) := hW.alike.trans ((Vm.Alike.refl S.vm).noted _ _ _)
  obtain ⟨k1, hk1⟩ := hk
  obtain ⟨k1', hk1', -⟩ := hal.2.2 _ _ hk1
  obtain ⟨_, _, _, kt, _, _, _, _, _, hkt, _, _⟩ := hl.here
  obtain ⟨kt', hkt', -⟩ := hal.2.2 _ _ hkt
  refine ⟨fun hf => ?_, fun hf => ?_⟩
  · have hf' : (S.vm.noted fr.method.cls x.catchType (.cls c)).assignable cell.cls c = true := by rw [hal.assignable]; exact hf
    simp [findHandler.go, hx, h0, ha, ht, hcell, hobj, hk1', hkt', hf', VmOp.dirties, VmOp.acts]
  · have hf' : (S.vm.noted fr.method.cls x.catchType (.cls c)).assignable cell.cls c = false := by rw [hal.assignable]; exact hf
    simp [findHandler.go, hx, h0, ha, ht, hcell, hobj, hk1', hkt', hf', VmOp.dirties, VmOp.acts]
theorem ct_go {e : Env} {s0 : State} {fr : JFrame} {a : Addr} {cell : Cell} (hobj : ∀ k, cell.vm ≠ .statics k) (hk : ∃ k, s0.vm.classes[cell.cls]? = some k) (x : ExceptionTableEntry) (rest : List ExceptionTableEntry) (hx : ct_take e.platform s0 fr.method.cls cell.cls fr.pc x) :
    ∀ (pre : List ExceptionTableEntry) (S : State), s0.WarmedH S.vm → S.heap[a]? = some cell → (∀ y ∈ pre, ct_pass e.platform s0 fr.method.cls cell.cls fr.pc y) →
      ∃ vm', s0.WarmedH vm' ∧ ∀ (Q : Handler → Pre) (E : CtlPost) (d : Bool) (acts : List Action), wp (findHandler.go fr a (pre ++ x :: rest)) Q E e d acts S ↔ Q (.found x.handlerPc) d acts (S.setVm vm') := by
  intro pre
  induction pre with
  | nil =>
    intro S hW hcell _
    obtain ⟨h1, h0, c, hl, hf⟩ := hx
    obtain ⟨dk, _, _, _, hd, _, _, _, _, _, _, hopen⟩ := hl.here
    exact ⟨_, hW.noted hd hopen (State.rightAt_cls hl), fun Q E d acts => (ct_step hW h1 h0 hl hcell hobj hk Q E d acts).1 hf⟩
  | cons y ys ih =>
    intro S hW hcell hps
    obtain ⟨h1, h0, c, hl, hf⟩ := hps y List.mem_cons_self
    obtain ⟨dk, _, _, _, hd, _, _, _, _, _, _, hopen⟩ := hl.here
    obtain ⟨vm', hW', hgo⟩ := ih (S.setVm (S.vm.noted fr.method.cls y.catchType (.cls c))) (hW.noted hd hopen (State.rightAt_cls hl)) hcell (fun z hz => hps z (List.mem_cons_of_mem _ hz))
    refine ⟨vm', hW', fun Q E d acts => ?_⟩
    rw [List.cons_append, (ct_step hW h1 h0 hl hcell hobj hk Q E d acts).2 hf, hgo Q E d acts]
    rfl
theorem ct_caught {tb : Tables} {e : Env} {S target : State} {g : JFrame} {c : Code} {below : List Frame} {a : Addr} (h : At S g.method c below) {pc : Nat} {vm' : Vm}
    (hfind : ∀ (Q : Handler → Pre) (E : CtlPost) (d : Bool) (acts : List Action), wp (findHandler g a) Q E e d acts ((S.setTop g).pushFrame (.throwing a)) ↔ Q (.found pc) d acts (((S.setTop g).pushFrame (.throwing a)).setVm vm')) (hrest : Steps tb e below ((S.setVm vm').setTop { g with pc := pc, stack := [.ref a] }) target) :
    Steps tb e below ((S.setTop g).pushFrame (.throwing a)) target := by
  obtain ⟨hgo, hw⟩ := h.throwing a
  refine Steps.head hgo hw ?_
  have key : ∀ (u : State) (r : List Frame), (∀ (Q : Handler → Pre) (E : CtlPost) (d : Bool) (acts : List Action), wp (findHandler g a) Q E e d acts u ↔ Q (.found pc) d acts (u.setVm vm')) → (stepThrowing e u a (.java g :: r)).Is ((u.setVm vm').setFrames (.java { g with pc := pc, stack := [.ref a] } :: r)) [] := by
    intro u r hf
    simp only [stepThrowing, searchFrame, vmDo]
    generalize hr : Sem.go _ e false [] u = res
    obtain ⟨as, rfl, ha⟩ := Sem.eq_ok_of hr (a := Handler.found pc) (s' := u.setVm vm') (acts' := []) (by simp [hf _ _ _ _])
    exact ⟨rfl, ha⟩
  rw [stepThread_throwing (frames_entered h.top _), (key _ _ hfind).1]
  obtain ⟨g₀, hg⟩ := Option.isSome_iff_exists.mp h.top
  obtain ⟨r, hr⟩ := State.topJava?_eq_some.mp hg
  have hr' : (S.setVm vm').frames = .java g₀ :: r := hr
  rw [State.setTop_of_frames _ hr'] at hrest
  have e2 : ∀ (u : State) (F G : List Frame), ((u.setFrames F).setVm vm').setFrames G = (u.setVm vm').setFrames G := by
    intro u F G
    have h1 : (u.setFrames F).setVm vm' = (u.setVm vm').setFrames F := rfl
    rw [h1, State.setFrames_setFrames]
  rw [hr, List.tail_cons, State.pushFrame, e2, State.setTop_of_frames _ hr, e2]
  exact hrest
section PWK
variable {p : Program} {l : Launch} {e : Env} {R : Room} {s : State} {m : MethodId} {args : Array Value} {below : List Frame} {meth : Method} {c : Code} {H : Heap} {locs : List Loc} {cells slots : Nat} {Q : State → Prop}
variable {cc : ByteArray} {pc nL : Nat} {ls : Array Slot} {rest st : List Value} {K : pw_K} {f : pw_F} {own : String}
theorem ct_of {d : ClassId} {k : ClassId} {E E' : String} {y : ExceptionTableEntry} (hpl : e.platform.magicAccessors = ({} : Platform).magicAccessors) (hd : s.vm.findClass own = some d) (hk : s.vm.findClass E = some k) (hl : (Cond.classLink own y.catchType E').before args s = true) :
    ∃ c', s.vm.ClassLinks e.platform d y.catchType c' ∧ s.vm.findClass E' = some c' := by
  obtain ⟨c', hc', hcl⟩ := Cond.classLink_spec hd hl e.platform hpl
  exact ⟨c', hcl, hc'⟩
/-- no handler: the caller throws on -/
theorem pw_callVT (X : pw_X p s m args meth c K own cc nL) (hne : c.exceptionTable.isEmpty = true) (hS : pw_S K f H locs) {y : MethodName} {b : ByteArray} {nL' index sz a ci N : Nat} {C E : String} {T : u_T} {fs As : List Value} {ret : Option FieldType} {rm : Room} {post post' : pw_F → Prop} {mc ms : Nat}
    (hM : pw_T l K y b nL' ret rm f (.ref a :: As) sz E post) (hz : H.size = sz) (hcd : Cond.code y b nL' ret ∈ lw_G) (hini : Cond.initialized y.cls ∈ lw_G) (hml : Cond.methodLink own index y ∈ lw_G) (him : Cond.instanceMethod y ∈ lw_G) (hse : Cond.selects C y y ∈ lw_G)
    (ha : f a = some (.inr (ci, fs))) (hc : cls[ci]? = some (C, T, N)) (hd : y.cls ≠ "java/lang/invoke/MethodHandle" ∧ y.cls ≠ "java/lang/invoke/VarHandle" ∧ (parseMethodDescriptor y.desc).map (fun d => d.parameters.length) = some As.length)
    (hst : st = As.reverse ++ .ref a :: rest) (hls : ls.size = nL) (hrest : (rest.map fun v => v.category).sum ≤ 8) (hdg : decode cc pc = .ok (.invokevirtual index, 3)) (hR : rm.frames + 1 ≤ R.frames ∧ 8 + (nL' + 11) + rm.locals ≤ R.locals) (hf : cells + rm.cells ≤ R.cells ∧ slots + rm.slots ≤ R.slots)
    (hp : ∀ f', post f' → post' f') (h1 : cells + rm.cells ≤ mc) (h2 : slots + rm.slots ≤ ms) : W p l e R s m args below meth c H locs cells slots (MQT below (pw_QT K E post') args s mc ms (fun q => (pZ K).heap.size ≤ q)) (F0 m pc ls st) := by
  have X0 := X
  obtain ⟨hx, hb, hmx, hown, hts, hK, ⟨hlk, -⟩, hZ, hW⟩ := X
  intro T0 hT XT
  have hemp : c.exceptionTable.toList = [] := by
    have : c.exceptionTable = #[] := by simpa using hne
    rw [this]
  obtain ⟨x, st₀, t, T', L, g0, X', hL, g1, g2, ⟨x2, f', hx2, hE, hpo, hat, hsz⟩, hgo⟩ := thrV XT hx hmx hb hown hM ⟨pw_callB X0 hcd hini hml hd hR, hts _ him, hts _ hse⟩ ⟨pw_blind, va_recv hK (pw_one hS.1 ha) (q0 := 0) hc rfl, pw_pre X0 hS hz⟩ hT (g := F0 m pc ls st) (rest := rest) rfl rfl hls hst (by simpa [JFrame.monitorRoom] using hrest) hdg hf
  cases hx2
  obtain ⟨w1, w2, w3, w4, w5⟩ := X'.leaveThrown x (g := { F0 m pc ls st with stack := rest }) rfl rfl rfl (by rw [hemp]; intro y h; cases h)
  refine ⟨_, hgo _ w1, x, w2, w3, ⟨x, f', rfl, ?_, hp f' hpo, ?_, ?_⟩, locs ++ L, w4, w5.mono h1 h2, fun q hq => ?_⟩
  · obtain ⟨cell, q1, q2, q3⟩ := hE
    exact ⟨cell, by show T'.heap[x]? = _; rw [g1]; exact q1, q2, q3⟩
  · show pw_at K f' T'.heap
    rw [g1]; exact hat
  · show _ ≤ T'.heap.size
    rw [g1]; exact hsz
  · rcases List.mem_append.mp hq with h | h
    · exact hS.2.1 q h
    · exact hL q h
/-- a handler of the caller's own: the walk goes on there -/
theorem pw_callVH (X : pw_X p s m args meth c K own cc nL) (hS : pw_S K f H locs) {y : MethodName} {b : ByteArray} {nL' index sz a ci N : Nat} {C E : String} {T : u_T} {fs As : List Value} {ret : Option FieldType} {rm : Room} {post : pw_F → Prop}
    (hM : pw_T l K y b nL' ret rm f (.ref a :: As) sz E post) (hz : H.size = sz) (hcd : Cond.code y b nL' ret ∈ lw_G) (hini : Cond.initialized y.cls ∈ lw_G) (hml : Cond.methodLink own index y ∈ lw_G) (him : Cond.instanceMethod y ∈ lw_G) (hse : Cond.selects C y y ∈ lw_G)
    (ha : f a = some (.inr (ci, fs))) (hc : cls[ci]? = some (C, T, N)) (hd : y.cls ≠ "java/lang/invoke/MethodHandle" ∧ y.cls ≠ "java/lang/invoke/VarHandle" ∧ (parseMethodDescriptor y.desc).map (fun d => d.parameters.length) = some As.length)
    (hst : st = As.reverse ++ .ref a :: rest) (hls : ls.size = nL) (hrest : (rest.map fun v => v.category).sum ≤ 8) (hdg : decode cc pc = .ok (.invokevirtual index, 3)) (hR : rm.frames + 1 ≤ R.frames ∧ 8 + (nL' + 11) + rm.locals ≤ R.locals) (hf : cells + rm.cells ≤ R.cells ∧ slots + rm.slots ≤ R.slots)
    (pre : List ExceptionTableEntry) (h : ExceptionTableEntry) (post1 : List ExceptionTableEntry) (hsp : c.exceptionTable.toList = pre ++ h :: post1) (hh : covers h pc = true ∧ h.catchType ≠ 0 ∧ Cond.classLink own h.catchType E ∈ lw_G) (hself : (Cond.castable E E).before (pA K) (pZ K) = true) (hins : (Cond.instantiable E 6).before (pA K) (pZ K) = true)
    (hpre : ∀ z ∈ pre, covers z pc = true ∧ z.catchType ≠ 0 ∧ ∃ E', Cond.classLink own z.catchType E' ∈ lw_G ∧ (Cond.not (.castable E E')).before (pA K) (pZ K) = true)
    (kk : ∀ (x : Nat) (f' : pw_F) (H1 : Heap) (locs1 : List Loc), post f' → pw_S K f' H1 locs1 → W p l e R s m args below meth c H1 locs1 (cells + rm.cells) (slots + rm.slots) Q (F0 m h.handlerPc ls [.ref x])) : W p l e R s m args below meth c H locs cells slots Q (F0 m pc ls st) := by
  have X0 := X
  obtain ⟨hx, hb, hmx, hown, hts, hK, ⟨hlk, -⟩, hZ, hW⟩ := X
  intro T0 hT XT
  have hpl : e.platform.magicAccessors = ({} : Platform).magicAccessors := by rw [XT.admits.platform]
  obtain ⟨x, st₀, t, T', L, g0, X', hL, g1, g2, ⟨x2, f', hx2, ⟨cell, c1, c2, c3⟩, hpo, hat, hsz⟩, hgo⟩ := thrV XT hx hmx hb hown hM ⟨pw_callB X0 hcd hini hml hd hR, hts _ him, hts _ hse⟩ ⟨pw_blind, va_recv hK (pw_one hS.1 ha) (q0 := 0) hc rfl, pw_pre X0 hS hz⟩ hT (g := F0 m pc ls st) (rest := rest) rfl rfl hls hst (by simpa [JFrame.monitorRoom] using hrest) hdg hf
  cases hx2
  have hEs : s.vm.findClass E = some cell.cls := by rw [hW.alike.findClass]; exact c2
  obtain ⟨kE, hkE⟩ : ∃ k, s.vm.classes[cell.cls]? = some k := by
    obtain ⟨ci2, k0, hc1, hk0, -, -, -, -⟩ := Cond.instantiable_spec hins
    cases hc1.symm.trans c2
    obtain ⟨k1, hk1, -⟩ := hW.alike.2.2 _ _ hk0
    exact ⟨k1, hk1⟩
  have htake : ct_take e.platform s m.cls cell.cls pc h := by
    obtain ⟨c', hcl, hc'⟩ := ct_of (y := h) (E := E) hpl hown hEs (hts _ hh.2.2)
    obtain ⟨u1, u2, r1, r2, r3⟩ := Cond.castable_spec hself
    cases r1.symm.trans c2
    cases r2.symm.trans c2
    cases hEs.symm.trans hc'
    exact ⟨hh.1, hh.2.1, _, hcl, by rw [hW.alike.assignable]; exact r3⟩
  have hpass : ∀ z ∈ pre, ct_pass e.platform s m.cls cell.cls pc z := by
    intro z hz2
    obtain ⟨z1, z2, E', z3, z4⟩ := hpre z hz2
    obtain ⟨c', hcl, hc'⟩ := ct_of (y := z) (E := E) hpl hown hEs (hts _ z3)
    have hcz : (pZ K).vm.findClass E' = some c' := by rw [← hW.alike.findClass]; exact hc'
    have hv := Cond.holds_not_iff.mp z4
    simp only [Cond.value, c2, hcz] at hv
    exact ⟨z1, z2, c', hcl, by rw [hW.alike.assignable]; exact Option.some.inj hv⟩
  have hobj : ∀ k, cell.vm ≠ .statics k := fun k hk => by rw [c3] at hk; cases hk
  have hcT : ((T'.setTop { F0 m pc ls st with stack := rest }).pushFrame (.throwing x)).heap[x]? = some cell := by rw [Stand.throwing_heap, g1]; exact c1
  obtain ⟨vm', hWv, hfind⟩ := ct_go (e := e) (s0 := s) (fr := { F0 m pc ls st with stack := rest }) (a := x) hobj ⟨kE, hkE⟩ h post1 htake pre ((T'.setTop { F0 m pc ls st with stack := rest }).pushFrame (.throwing x)) (by rw [Stand.throwing_vm]; exact X'.warmed) hcT hpass
  obtain ⟨t2, a1, b1⟩ := kk x f' T'.heap (locs ++ L) hpo ⟨by rw [g1]; exact hat, fun q hq => by
      rcases List.mem_append.mp hq with h | h
      · exact hS.2.1 q h
      · exact hL q h, by rw [g1]; exact hsz⟩ (T'.setVm vm') rfl (X'.noted hWv)
  refine ⟨t2, hgo t2 ?_, b1⟩
  refine ct_caught (g := { F0 m pc ls st with stack := rest }) X'.here (vm' := vm') (pc := h.handlerPc) (fun Q2 E2 d2 acts2 => ?_) a1
  rw [W.findHandler_eq (meth := meth) (code := c) (by rw [Stand.throwing_vm]; exact X'.method') X'.code, hsp]
  exact hfind Q2 E2 d2 acts2
end PWK
