/-! CONTRACTS over the world, and calls by them -/
def pw_P (K : pw_K) (f : pw_F) (av : List Value) (sz : Nat) : Array Value → State → Prop := fun v U => v = av.toArray ∧ U.heap.size = sz ∧ pw_at K f U.heap ∧ (pZ K).heap.size ≤ sz ∧ pw_Z K ∧ (pZ K).WarmedH U.vm
def pw_Q (K : pw_K) (post : Option Value → pw_F → Nat → Prop) : Array Value → State → Outcome → State → Prop := fun _ _ o t => ∃ (v : Option Value) (f' : pw_F), o = .returned v ∧ post v f' t.heap.size ∧ pw_at K f' t.heap ∧ (pZ K).heap.size ≤ t.heap.size
/-- method y returns: from the world f with arguments av and sz cells in the heap, to a world with 'post answer world size' -/
def pw_C (l : Launch) (K : pw_K) (y : MethodName) (b : ByteArray) (nL : Nat) (ret : Option FieldType) (rm : Room) (f : pw_F) (av : List Value) (sz : Nat) (post : Option Value → pw_F → Nat → Prop) : Prop :=
  Met l y [Cond.code y b nL ret] rm (pw_P K f av sz) (pw_Q K post) rm.cells rm.slots (fun q => (pZ K).heap.size ≤ q)
theorem pw_words {K : pw_K} {s : State} {args : Array Value} (hZ : pw_Z K) (hW : (pZ K).WarmedH s.vm) : ∀ w ∈ lw_G, w.before args s = true := by
  intro w hw
  obtain ⟨h1, h2⟩ := List.mem_filter.mp hw
  exact word_at hW (good_of_word h2) (hZ.1 w h1)
theorem pw_start {l : Launch} {K : pw_K} {y : MethodName} {b : ByteArray} {nL : Nat} {ret : Option FieldType} {rm : Room} {f : pw_F} {av : List Value} {sz : Nat} {post : Option Value → pw_F → Nat → Prop} (hy : plainName y.cls = true) (hn : (lg_sl av).length ≤ nL)
    (body : ∀ (p : Program) (e : Env) (s : State) (m : MethodId) (args : Array Value) (below : List Frame) (meth : Method) (c : Code) (ls : Array Slot), pw_X p s m args meth c K y.cls b nL → meth.sig.returnType = ret → meth.name = y.name → s.heap.size = sz → pw_S K f s.heap [] → lv_has ls nL (lv_args 0 av) →
      W p l e rm s m args below meth c s.heap [] 0 0 (MQ below (pw_Q K post) args s rm.cells rm.slots (fun q => (pZ K).heap.size ≤ q)) (F0 m 0 ls [])) : pw_C l K y b nL ret rm f av sz post := by
  refine Met.ofW (cc := b) (maxL := nL) (ret := ret) hy rfl ?_
  intro p e s m args below meth c s₁ B hml hv
  obtain ⟨rfl, hsz, hP, hlo, hZ, hW⟩ := hv
  rw [lg_entry_eq]
  refine body p e s m _ below meth c _ ⟨B.exec, B.bytes, hml, findClass_of_methodNamed B.named, pw_words hZ hW, va_K.moved hW.alike hZ.2.1, ⟨B.notSynchronized, hP.1.2⟩, hZ, hW⟩ B.returns (name_of_methodNamed B.named B.method).1 hsz ⟨hP, (fun x h => by cases h), (by rw [hsz]; exact hlo)⟩ (lv_entry av hn)
section PWC
variable {p : Program} {l : Launch} {e : Env} {R : Room} {s : State} {m : MethodId} {args : Array Value} {below : List Frame} {meth : Method} {c : Code} {H : Heap} {locs : List Loc} {cells slots : Nat} {Q : State → Prop}
variable {cc : ByteArray} {pc nL : Nat} {ls : Array Slot} {rest st : List Value} {K : pw_K} {f : pw_F} {own : String}
theorem pw_blind {K : pw_K} {f : pw_F} {av : List Value} {sz : Nat} : FrameBlind (pw_P K f av sz) := by
  intro a U g mk h
  obtain ⟨h1, h2, h3, h4, h5, h6⟩ := h
  exact ⟨h1, h2, h3, h4, h5, h6⟩
theorem pw_pre (X : pw_X p s m args meth c K own cc nL) (hS : pw_S K f H locs) {av : List Value} {sz : Nat} (hz : H.size = sz) : ∀ U : State, U.heap = H → s.WarmedH U.vm → pw_P K f av sz av.toArray U := by
  obtain ⟨-, -, -, -, -, -, -, hZ, hW⟩ := X
  intro U hU hW2
  exact ⟨rfl, by rw [hU]; exact hz, by rw [hU]; exact hS.1, by rw [← hz]; exact hS.2.2, hZ, State.WarmedH.trans hW hW2⟩
theorem pw_callB (X : pw_X p s m args meth c K own cc nL) {y : MethodName} {b : ByteArray} {nL' index n : Nat} {ret : Option FieldType} {rm : Room} (hcd : Cond.code y b nL' ret ∈ lw_G) (hini : Cond.initialized y.cls ∈ lw_G) (hml : Cond.methodLink own index y ∈ lw_G)
    (hd : y.cls ≠ "java/lang/invoke/MethodHandle" ∧ y.cls ≠ "java/lang/invoke/VarHandle" ∧ (parseMethodDescriptor y.desc).map (fun d => d.parameters.length) = some n) (hR : rm.frames + 1 ≤ R.frames ∧ 8 + (nL' + 11) + rm.locals ≤ R.locals) : CallB R s args own index y b nL' ret [Cond.code y b nL' ret] rm rm.cells rm.slots n := by
  obtain ⟨-, -, -, -, hts, -, -, hZ, hW⟩ := X
  refine ⟨rfl, rfl, hR.1, hR.2, fun w hw a' U hU => ?_, List.mem_singleton.mpr rfl, hts _ hcd, hts _ hini, ⟨hd.1, hd.2.1⟩, fun sig h => ?_, hts _ hml⟩
  · rw [List.mem_singleton.mp hw]
    exact word_at hU (good_of_word (List.mem_filter.mp hcd).2) (hts _ hcd)
  · have h2 := hd.2.2
    rw [h] at h2
    exact (Option.some.inj h2).symm
theorem pw_goes {mc ms : Nat} {Qa : State → Outcome → State → Prop} {post : Option Value → pw_F → Nat → Prop} {av : Array Value} (hS : pw_S K f H locs) (hr : va_Run p l e R s m args below meth c H locs cells slots mc ms (F0 m pc ls st) rest (pw_Q K post av) (fun q => (pZ K).heap.size ≤ q))
    (kk : ∀ (v : Option Value) (f' : pw_F) (H1 : Heap) (locs1 : List Loc), post v f' H1.size → pw_S K f' H1 locs1 → W p l e R s m args below meth c H1 locs1 (cells + mc) (slots + ms) Q (F0 m (pc + 3) ls (v.toList ++ rest))) : W p l e R s m args below meth c H locs cells slots Q (F0 m pc ls st) := by
  intro T hT X
  obtain ⟨v, st₀, t, T', L, h0, X', hL, e1, e2, ⟨v2, f', hv, hp, hat, hsz⟩, hgo⟩ := hr T hT X
  cases hv
  rw [← e1] at hp hat hsz
  obtain ⟨t2, a1, b1⟩ := kk v f' T'.heap (locs ++ L) hp ⟨hat, fun q hq => by
      rcases List.mem_append.mp hq with h | h
      · exact hS.2.1 q h
      · exact hL q h, hsz⟩ T' rfl X'
  exact ⟨t2, hgo t2 a1, b1⟩
theorem pw_callV (X : pw_X p s m args meth c K own cc nL) (hS : pw_S K f H locs) {y : MethodName} {b : ByteArray} {nL' index sz a ci N : Nat} {C : String} {T : u_T} {fs As : List Value} {ret : Option FieldType} {rm : Room} {post : Option Value → pw_F → Nat → Prop}
    (hM : pw_C l K y b nL' ret rm f (.ref a :: As) sz post) (hz : H.size = sz) (hcd : Cond.code y b nL' ret ∈ lw_G) (hini : Cond.initialized y.cls ∈ lw_G) (hml : Cond.methodLink own index y ∈ lw_G) (him : Cond.instanceMethod y ∈ lw_G) (hse : Cond.selects C y y ∈ lw_G)
    (ha : f a = some (.inr (ci, fs))) (hc : cls[ci]? = some (C, T, N)) (hd : y.cls ≠ "java/lang/invoke/MethodHandle" ∧ y.cls ≠ "java/lang/invoke/VarHandle" ∧ (parseMethodDescriptor y.desc).map (fun d => d.parameters.length) = some As.length)
    (hst : st = As.reverse ++ .ref a :: rest) (hls : ls.size = nL) (hrest : (rest.map fun v => v.category).sum ≤ 8) (hdg : decode cc pc = .ok (.invokevirtual index, 3)) (hR : rm.frames + 1 ≤ R.frames ∧ 8 + (nL' + 11) + rm.locals ≤ R.locals) (hf : cells + rm.cells ≤ R.cells ∧ slots + rm.slots ≤ R.slots)
    (kk : ∀ (v : Option Value) (f' : pw_F) (H1 : Heap) (locs1 : List Loc), post v f' H1.size → pw_S K f' H1 locs1 → W p l e R s m args below meth c H1 locs1 (cells + rm.cells) (slots + rm.slots) Q (F0 m (pc + 3) ls (v.toList ++ rest))) : W p l e R s m args below meth c H locs cells slots Q (F0 m pc ls st) := by
  have X0 := X
  obtain ⟨hx, hb, hmx, hown, hts, hK, -, hZ, hW⟩ := X
  exact pw_goes (Qa := fun _ _ _ => True) hS (va_runV (As := As) ⟨hx, hb, hmx, hown, hts⟩ hM ⟨pw_callB X0 hcd hini hml hd hR, hts _ him, hts _ hse⟩ ⟨pw_blind, va_recv hK (pw_one hS.1 ha) (q0 := 0) hc rfl, pw_pre X0 hS hz⟩ rfl rfl hls hst (by simpa [JFrame.monitorRoom] using hrest) hdg hf) kk
theorem pw_callI (X : pw_X p s m args meth c K own cc nL) (hS : pw_S K f H locs) {y : MethodName} {b : ByteArray} {nL' index sz a : Nat} {As : List Value} {rm : Room} {post : Option Value → pw_F → Nat → Prop}
    (hM : pw_C l K y b nL' none rm f (.ref a :: As) sz post) (hz : H.size = sz) (hcd : Cond.code y b nL' none ∈ lw_G) (hini : Cond.initialized y.cls ∈ lw_G) (hml : Cond.methodLink own index y ∈ lw_G) (him : Cond.instanceMethod y ∈ lw_G) (hy1 : y.name = "<init>")
    (hd : y.cls ≠ "java/lang/invoke/MethodHandle" ∧ y.cls ≠ "java/lang/invoke/VarHandle" ∧ (parseMethodDescriptor y.desc).map (fun d => d.parameters.length) = some As.length)
    (hst : st = As.reverse ++ .ref a :: rest) (hls : ls.size = nL) (hrest : (rest.map fun v => v.category).sum ≤ 8) (hdg : decode cc pc = .ok (.invokespecial index, 3)) (hR : rm.frames + 1 ≤ R.frames ∧ 8 + (nL' + 11) + rm.locals ≤ R.locals) (hf : cells + rm.cells ≤ R.cells ∧ slots + rm.slots ≤ R.slots)
    (kk : ∀ (v : Option Value) (f' : pw_F) (H1 : Heap) (locs1 : List Loc), post v f' H1.size → pw_S K f' H1 locs1 → W p l e R s m args below meth c H1 locs1 (cells + rm.cells) (slots + rm.slots) Q (F0 m (pc + 3) ls (v.toList ++ rest))) : W p l e R s m args below meth c H locs cells slots Q (F0 m pc ls st) := by
  have X0 := X
  obtain ⟨hx, hb, hmx, hown, hts, hK, -, hZ, hW⟩ := X
  exact pw_goes (Qa := fun _ _ _ => True) hS (va_runI (As := As) ⟨hx, hb, hmx, hown, hts⟩ hM ⟨pw_callB X0 hcd hini hml hd hR, hy1, hts _ him⟩ ⟨pw_blind, pw_pre X0 hS hz⟩ rfl rfl hls hst (by simpa [JFrame.monitorRoom] using hrest) hdg hf) kk
theorem pw_callS (X : pw_X p s m args meth c K own cc nL) (hS : pw_S K f H locs) {y : MethodName} {b : ByteArray} {nL' index sz : Nat} {As : List Value} {ret : Option FieldType} {rm : Room} {post : Option Value → pw_F → Nat → Prop}
    (hM : pw_C l K y b nL' ret rm f As sz post) (hz : H.size = sz) (hcd : Cond.code y b nL' ret ∈ lw_G) (hini : Cond.initialized y.cls ∈ lw_G) (hml : Cond.methodLink own index y ∈ lw_G) (hss : Cond.static y ∈ lw_G)
    (hd : y.cls ≠ "java/lang/invoke/MethodHandle" ∧ y.cls ≠ "java/lang/invoke/VarHandle" ∧ (parseMethodDescriptor y.desc).map (fun d => d.parameters.length) = some As.length)
    (hst : st = As.reverse ++ rest) (hls : ls.size = nL) (hrest : (rest.map fun v => v.category).sum ≤ 8) (hdg : decode cc pc = .ok (.invokestatic index, 3)) (hR : rm.frames + 1 ≤ R.frames ∧ 8 + (nL' + 11) + rm.locals ≤ R.locals) (hf : cells + rm.cells ≤ R.cells ∧ slots + rm.slots ≤ R.slots)
    (kk : ∀ (v : Option Value) (f' : pw_F) (H1 : Heap) (locs1 : List Loc), post v f' H1.size → pw_S K f' H1 locs1 → W p l e R s m args below meth c H1 locs1 (cells + rm.cells) (slots + rm.slots) Q (F0 m (pc + 3) ls (v.toList ++ rest))) : W p l e R s m args below meth c H locs cells slots Q (F0 m pc ls st) := by
  have X0 := X
  obtain ⟨hx, hb, hmx, hown, hts, hK, -, hZ, hW⟩ := X
  exact pw_goes (Qa := fun _ _ _ => True) hS (va_runS (As := As) ⟨hx, hb, hmx, hown, hts⟩ hM ⟨pw_callB X0 hcd hini hml hd hR, hts _ hss⟩ ⟨pw_blind, pw_pre X0 hS hz⟩ rfl rfl hls hst (by simpa [JFrame.monitorRoom] using hrest) hdg hf) kk
theorem pw_obj (X : pw_X p s m args meth c K own cc nL) {index a : Nat} (hml : Cond.methodLink own index objectInit ∈ lw_G) (hls : ls.size = nL) (hdg : decode cc pc = .ok (.invokespecial index, 3)) (hR : 2 ≤ R.frames ∧ 40 ≤ R.locals) (hrest : rest = [])
    (kk : W p l e R s m args below meth c H locs cells slots Q (F0 m (pc + 3) ls rest)) : W p l e R s m args below meth c H locs cells slots Q (F0 m pc ls (.ref a :: rest)) := by
  obtain ⟨hx, hb, hmx, hown, hts, hK, -, hZ, hW⟩ := X
  subst hrest
  refine W.objInit hx hb hown (hts _ hml) (hts _ w_im_obj) (hts _ w_cd_obj) rfl (by rw [hmx]; exact hls) rfl hdg (by omega) (by simp [JFrame.monitorRoom]; omega) ?_
  exact kk
-- ends
theorem pw_vret (X : pw_X p s m args meth c K own cc nL) (hS : pw_S K f H locs) {post : Option Value → pw_F → Nat → Prop} {mc ms : Nat} (hr : meth.sig.returnType = none) (hp : post none f H.size) (h1 : cells ≤ mc) (h2 : slots ≤ ms) (hdg : decode cc pc = .ok (.return_, 1)) : W p l e R s m args below meth c H locs cells slots (MQ below (pw_Q K post) args s mc ms (fun q => (pZ K).heap.size ≤ q)) (F0 m pc ls []) := by
  obtain ⟨hx, hb, -, -, -, -, ⟨hlk, -⟩, -, -⟩ := X
  refine W.widen h1 h2 ?_
  exact W.vret hx hb hr (fun t ht hW => ⟨_, f, rfl, by rw [ht]; exact hp, by rw [ht]; exact hS.1, by rw [ht]; exact hS.2.2⟩) hS.2.1 hdg
theorem pw_iret (X : pw_X p s m args meth c K own cc nL) (hS : pw_S K f H locs) {post : Option Value → pw_F → Nat → Prop} {mc ms : Nat} {v : Int32} (hr : meth.sig.returnType = some .int) (hp : post (some (.int v)) f H.size) (h1 : cells ≤ mc) (h2 : slots ≤ ms) (hdg : decode cc pc = .ok (.ireturn, 1)) : W p l e R s m args below meth c H locs cells slots (MQ below (pw_Q K post) args s mc ms (fun q => (pZ K).heap.size ≤ q)) (F0 m pc ls [.int v]) := by
  obtain ⟨hx, hb, -, -, -, -, ⟨hlk, -⟩, -, -⟩ := X
  refine W.widen h1 h2 ?_
  exact W.iret hx hb hr (fun t ht hW => ⟨_, f, rfl, by rw [ht]; exact hp, by rw [ht]; exact hS.1, by rw [ht]; exact hS.2.2⟩) hS.2.1 hdg
theorem pw_zret (X : pw_X p s m args meth c K own cc nL) (hS : pw_S K f H locs) {post : Option Value → pw_F → Nat → Prop} {mc ms : Nat} {v : Int32} (hr : meth.sig.returnType = some .boolean) (hn : narrow .boolean (.int v) = .int v) (hp : post (some (.int v)) f H.size) (h1 : cells ≤ mc) (h2 : slots ≤ ms) (hdg : decode cc pc = .ok (.ireturn, 1)) : W p l e R s m args below meth c H locs cells slots (MQ below (pw_Q K post) args s mc ms (fun q => (pZ K).heap.size ≤ q)) (F0 m pc ls [.int v]) := by
  obtain ⟨hx, hb, -, -, -, -, ⟨hlk, -⟩, -, -⟩ := X
  refine W.widen h1 h2 ?_
  exact W.zret hx hb hr hn (fun t ht hW => ⟨_, f, rfl, by rw [ht]; exact hp, by rw [ht]; exact hS.1, by rw [ht]; exact hS.2.2⟩) hS.2.1 hdg
theorem pw_lret (X : pw_X p s m args meth c K own cc nL) (hS : pw_S K f H locs) {post : Option Value → pw_F → Nat → Prop} {mc ms : Nat} {v : Int64} (hr : meth.sig.returnType = some .long) (hp : post (some (.long v)) f H.size) (h1 : cells ≤ mc) (h2 : slots ≤ ms) (hdg : decode cc pc = .ok (.lreturn, 1)) : W p l e R s m args below meth c H locs cells slots (MQ below (pw_Q K post) args s mc ms (fun q => (pZ K).heap.size ≤ q)) (F0 m pc ls [.long v]) := by
  obtain ⟨hx, hb, -, -, -, -, ⟨hlk, -⟩, -, -⟩ := X
  refine W.widen h1 h2 ?_
  exact W.lret hx hb hr (fun t ht hW => ⟨_, f, rfl, by rw [ht]; exact hp, by rw [ht]; exact hS.1, by rw [ht]; exact hS.2.2⟩) hS.2.1 hdg
end PWC
