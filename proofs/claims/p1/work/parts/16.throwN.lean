/-! 'throw new E(text)' where E's constructor hands the text on by another entry than 7 (NoSuchElementException: 13) -/
def nA (own : String) (ic : Nat) (X Y : String) (ix : Nat) (bs : ByteArray) (names : List String) : List Cond :=
  Bundle.throwableAtoms ++ (Bundle.throwableSAtoms ++ (Bundle.passSAtoms X Y ix bs ++ (Bundle.chainSAtoms Y names ++
  [.methodLink own ic (Bundle.initS X), .instantiable X 6, .castable X X, .selects X Bundle.tFill0 Bundle.tFill0, .selects X Bundle.tFill Bundle.tFill,
   .lays X Bundle.tN "cause" "Ljava/lang/Throwable;", .lays X Bundle.tN "stackTrace" Bundle.steD, .lays X Bundle.tN "suppressedExceptions" Bundle.listD, .lays X Bundle.tN "detailMessage" "Ljava/lang/String;",
   .isRef (.static Bundle.tN "UNASSIGNED_STACK" Bundle.steD), .isRef (.static Bundle.tN "SUPPRESSED_SENTINEL" Bundle.listD),
   .fieldLink Bundle.tN 198 Bundle.tN "backtrace" "Ljava/lang/Object;", .lays Bundle.tN Bundle.tN "backtrace" "Ljava/lang/Object;", .lays X Bundle.tN "backtrace" "Ljava/lang/Object;"])))
section PWN
variable {p : Program} {l : Launch} {e : Env} {R : Room} {s : State} {m : MethodId} {args : Array Value} {below : List Frame} {meth : Method} {c : Code} {H : Heap} {locs : List Loc} {cells slots : Nat} {Q : State → Prop}
variable {cc : ByteArray} {pc nL : Nat} {ls : Array Slot} {rest st : List Value} {K : pw_K} {f : pw_F} {own : String}
set_option maxHeartbeats 2000000 in
theorem nThrow {V : State} (XT : Stand p l e R s m args below meth c V [] cells slots) (hexec : p.tables.exec = Jvm.exec) (htr : e.platform.stackTraces = false) {X Y : String} {names : List String} {ic ix : Nat} {bs : ByteArray}
    (b0 : decode bs 0 = .ok (.aload_n 0, 1)) (b1 : decode bs 1 = .ok (.aload_n 1, 1)) (b2 : decode bs 2 = .ok (.invokespecial ix, 3)) (b5 : decode bs 5 = .ok (.return_, 1))
    (hown : s.vm.findClass own = some m.cls) (hX : Bundle.fit X = true) (hY : Bundle.fit Y = true) (hnm : ∀ n ∈ names, Bundle.fit n = true) (hat : ∀ w ∈ nA own ic X Y ix bs names, w.before args s = true)
    {a : Addr} {cX : ClassId} {kX : Class} (hfX : s.vm.findClass X = some cX) (hkX : s.vm.classes[cX]? = some kX) (hcell : V.heap[a]? = some (freshCell cX kX)) (hnew : s.heap.size ≤ a) {msg : Value} (hmsg : msg.isRef = true)
    {g : JFrame} (hg : g.method = m) (hsize : g.locals.size = c.maxLocals) (hlk1 : g.locked = none) (hen : g.entered = []) (hst : g.stack = [msg, .ref a, .ref a])
    (hd6 : decode c.code g.pc = .ok (.invokespecial ic, 3)) (hd9 : decode c.code (g.pc + 3) = .ok (.athrow, 1)) (hemp : c.exceptionTable.toList = []) (hlk : meth.locks = false)
    (hRf : names.length + 4 < R.frames) (hRl : 2 * g.monitorRoom + 1 + (13 * (names.length + 2) + 42) ≤ R.locals) :
    ∃ U : State, Steps p.tables e below (V.setTop g) U ∧ U.status = .running ∧ Ended U below (.threw a) ∧ s.WarmedH U.vm ∧ s.sameButNew ({ U with vm := s.vm } : State) [] cells slots ∧ ∃ ce : Cell, U.heap[a]? = some ce ∧ s.vm.findClass X = some ce.cls ∧ ce.vm = .none := by
  have k1 : e.platform.frameOwnsMonitors = true := by rw [XT.admits.platform]
  have k2 : e.platform.finalization = false := by rw [XT.admits.platform]
  have k3 : e.platform.magicAccessors = ({} : Platform).magicAccessors := by rw [XT.admits.platform]
  have w1 : ∀ w, w ∈ Bundle.throwableAtoms → w.before args s = true := fun w h => hat w (List.mem_append_left _ h)
  have w2 : ∀ w, w ∈ Bundle.throwableSAtoms → w.before args s = true := fun w h => hat w (List.mem_append_right _ (List.mem_append_left _ h))
  have w3 : ∀ w, w ∈ Bundle.passSAtoms X Y ix bs → w.before args s = true := fun w h => hat w (List.mem_append_right _ (List.mem_append_right _ (List.mem_append_left _ h)))
  have w4 : ∀ w, w ∈ Bundle.chainSAtoms Y names → w.before args s = true := fun w h => hat w (List.mem_append_right _ (List.mem_append_right _ (List.mem_append_right _ (List.mem_append_left _ h))))
  have w5 : ∀ (i : Nat) (w : Cond), ([.methodLink own ic (Bundle.initS X), .instantiable X 6, .castable X X, .selects X Bundle.tFill0 Bundle.tFill0, .selects X Bundle.tFill Bundle.tFill, .lays X Bundle.tN "cause" "Ljava/lang/Throwable;", .lays X Bundle.tN "stackTrace" Bundle.steD, .lays X Bundle.tN "suppressedExceptions" Bundle.listD, .lays X Bundle.tN "detailMessage" "Ljava/lang/String;", .isRef (.static Bundle.tN "UNASSIGNED_STACK" Bundle.steD), .isRef (.static Bundle.tN "SUPPRESSED_SENTINEL" Bundle.listD), .fieldLink Bundle.tN 198 Bundle.tN "backtrace" "Ljava/lang/Object;", .lays Bundle.tN Bundle.tN "backtrace" "Ljava/lang/Object;", .lays X Bundle.tN "backtrace" "Ljava/lang/Object;"] : List Cond)[i]? = some w → w.before args s = true := fun i w h => hat w (List.mem_append_right _ (List.mem_append_right _ (List.mem_append_right _ (List.mem_append_right _ (List.mem_of_getElem? h)))))
  obtain ⟨T, Z0, L, -, Yt⟩ := ThrowableC.of_atoms (args := args) k1 k2 k3 w1
  obtain ⟨Z, M, LZ, LM, hnZ⟩ := Init0T.ofS_atoms (args := args) k3 L Yt w2
  obtain ⟨P2, Ps, hlen, L2, hL, hP2m, hs2, hpass⟩ := Bundle.chainS (args := args) k3 hnZ names Y hY hnm w4
  obtain ⟨P1, L1, hP1m, hP1s⟩ := PassC.ofS_atoms (args := args) (s := s) k3 (X := X) (Y := Y) (Bundle.fit_spec hX).1 (Bundle.fit_spec hY).2 b0 b1 b2 b5 w3
  have hsup : P1.sup = P2.m := Option.some.inj (hP1s.symm.trans hP2m)
  have hfd : s.vm.findClass X = some P1.m.cls := findClass_of_methodNamed hP1m
  cases Option.some.inj (hfX.symm.trans hfd)
  obtain ⟨cI, kI, hcI, hkI, hord, -, -, -⟩ := Cond.instantiable_spec (w5 1 _ rfl)
  cases Option.some.inj (hcI.symm.trans hfd)
  cases Option.some.inj (hkX.symm.trans hkI)
  have sel : ∀ (x : MethodName) (i : MethodId), x.cls ≠ "java/lang/invoke/MethodHandle" ∧ x.cls ≠ "java/lang/invoke/VarHandle" → s.methodNamed? x = some i → (Cond.selects X x x).before args s = true → selectMethod e.platform s.vm P1.m.cls i = .method i := by
    intro x i hxn hi hse
    obtain ⟨c2, r2, m2, q1, q2, q3, q4, -⟩ := Cond.selects_spec hse
    cases Option.some.inj (q1.symm.trans hfd)
    cases Option.some.inj (q2.symm.trans (State.methodFound?_of_named hi hxn))
    cases Option.some.inj (q3.symm.trans hi)
    rw [Launch.admits_selectMethod XT.admits]; exact q4
  have sel0 := sel Bundle.tFill0 T.fill0 (by decide) Yt.fill0 (w5 3 _ rfl)
  have selF := sel Bundle.tFill T.fill (by decide) Yt.fill (w5 4 _ rfl)
  obtain ⟨cs0, hcs0, hiss⟩ := Yt.statics
  obtain ⟨u0, hu0⟩ := Cond.staticRefV Yt.unassigned L.unassignedStatic L.statics hcs0 hiss (w5 9 _ rfl)
  obtain ⟨sen, hsen⟩ := Cond.staticRefV Yt.sentinel L.sentinelStatic L.statics hcs0 hiss (w5 10 _ rfl)
  obtain ⟨ci198, i198, fB, hk198, hg198, ha198, hsB, -, hnB, htB, hffB⟩ := Cond.ownField (t := .object "java/lang/Object") Yt.found L.cls (by decide +kernel) (w5 11 _ rfl) (w5 12 _ rfl) e.platform k3
  have hcS : V.heap[T.aS]? = some cs0 := by
    have h1 := pw_same XT.same (Array.getElem?_eq_some_iff.mp hcs0).1
    exact h1.trans hcs0
  have hkn : cs0.vm ≠ .unknown := fun hu => by rw [hu] at hiss; cases hiss
  have hneS : T.aS ≠ a := Nat.ne_of_lt (Nat.lt_of_lt_of_le (Array.getElem?_eq_some_iff.mp hcs0).1 hnew)
  obtain ⟨iM, hffM⟩ := Yt.msg
  obtain ⟨tyC, dC, hdC, hdnC⟩ := Cond.laysAt hfd hkI Yt.cause (w5 5 _ rfl)
  obtain ⟨tyS, dS, hdS, hdnS⟩ := Cond.laysAt hfd hkI Yt.stack (w5 6 _ rfl)
  obtain ⟨tyP, dP, hdP, hdnP⟩ := Cond.laysAt hfd hkI Yt.supp (w5 7 _ rfl)
  obtain ⟨tyM, dM, hdM, hdnM⟩ := Cond.laysAt hfd hkI hffM (w5 8 _ rfl)
  obtain ⟨tyB, dB, hdB, hdnB⟩ := Cond.laysAt hfd hkI hffB (w5 13 _ rfl)
  have bC := Cond.laysApart hdB hdC hdnB hdnC (by rw [hnB, Yt.causeName]; decide)
  have bS := Cond.laysApart hdB hdS hdnB hdnS (by rw [hnB, Yt.stackName]; decide)
  have bP := Cond.laysApart hdB hdP hdnB hdnP (by rw [hnB, Yt.suppName]; decide)
  have hskip : SkipFacts T e.platform s (fun u => u) u0 ((preparedCellV T.toThrowableT (freshCell P1.m.cls kX) a u0 sen).withEntry V.cur) :=
    ⟨{ ci198 := ci198, i198 := i198, fBack := fB }, ⟨hk198, hg198, ha198, hsB⟩, (by
      have hfr := fresh_default (c := P1.m.cls) tyB
      rw [htB] at hfr
      simpa [preparedCellV, Cell.setSlot, Cell.withEntry, Array.getElem?_setIfInBounds, bC, bS, bP, bC.symm, bS.symm, bP.symm, defaultValue] using hfr), fun _ _ => rfl⟩
  obtain ⟨tm, mC, cC2, kC2, vm₁, hnC, -, -, -, -, -, -, -, hW₁, st1⟩ := Steps.initColdS (tb := p.tables) (e := e) (below := below) (s := s) (U := V) XT.here hexec XT.warmed k3 hown (t := Bundle.initS X) rfl rfl (Bundle.fit_spec hX).2
    (w5 0 _ rfl) (w3 (.instanceMethod (Bundle.initS X)) (by simp [Bundle.passSAtoms])) (bytes := bs) (maxL := 2) (w3 (.code (Bundle.initS X) bs 2 none) (by simp [Bundle.passSAtoms])) (f := g) hg (a := a) (msg := msg) (rest := [.ref a]) hst hd6
  cases Option.some.inj (hnC.symm.trans hP1m)
  have X₁ := XT.noted hW₁
  obtain ⟨vm₂, X₂, st2⟩ := X₁.ctorMessageOffV hexec (g := { g with stack := [.ref a] }) hg hsize T L Z LZ M LM (P1 :: P2 :: Ps)
    (fun P hP => by
      rcases List.mem_cons.mp hP with rfl | hP
      · exact L1
      rcases List.mem_cons.mp hP with rfl | hP
      · exact L2
      · exact hL P hP) ⟨hsup, hs2, hpass⟩ (u0 := u0) (sen := sen) (self := a) hmsg (cell := freshCell P1.m.cls kX) (cellS := cs0)
    hcell (fun _ => by simp) (by simp) rfl rfl sel0 selF hcS hneS hkn hu0 hsen
    (Takes.of_laid hkI hord tyC (by rw [Yt.causeType]; rfl)) (Takes.of_laid hkI hord tyS (by rw [Yt.stackType]; exact fits_refV_array _ u0)) (Takes.of_laid hkI hord tyP (by rw [Yt.suppType]; exact fits_refV_object _ sen))
    (Takes.of_laid hkI hord tyM (by rw [Yt.msgType]; exact fits_refV_object _ ⟨msg, hmsg⟩)) Yt.objLocals hskip htr [] hd6
    (by simp only [List.length_cons, hlen]; omega) (by simp only [List.length_cons, hlen, List.map_cons, List.map_nil, List.sum_cons, List.sum_nil, Value.category]; show 2 * g.monitorRoom + _ + _ ≤ _; omega)
  obtain ⟨hwalk, hrun, hend, hWU, hsame⟩ := X₂.athrowLeaves hexec (g := { g with stack := [.ref a], pc := g.pc + 3 }) hg hlk1 hen (by rw [hemp]; intro x h; cases h) (a := a) (rest := []) rfl hd9
  have hlt : a < ((V.setVm vm₁).setVm vm₂).heap.size := (Array.getElem?_eq_some_iff.mp hcell).1
  have hU := heapAt_setCell_self (s := (V.setVm vm₁).setVm vm₂) (plainBareV T.toThrowableT (freshCell P1.m.cls kX) a u0 sen msg) hlt
  refine ⟨_, st1 _ (fun acts => ?_), hrun, hend, hWU, hsame.weaken (fun y hy hlt2 => ?_) (Nat.le_refl _) (Nat.le_refl _), _, hU, hfd, rfl⟩
  · rw [doInvoke_state]
    exact st2 _ hwalk
  · exfalso
    have hb : y.base = a := by
      simp only [List.nil_append, List.mem_cons, List.not_mem_nil, or_false] at hy
      rcases hy with rfl | rfl | rfl | rfl | rfl <;> rfl
    rw [hb] at hlt2
    exact Nat.not_lt.mpr hnew hlt2
set_option maxHeartbeats 2000000 in
theorem pw_throwN (hfl : l.flags = pinnedFlags ++ [noTraceFlag]) (X : pw_X p s m args meth c K own cc nL) (hne : c.exceptionTable.isEmpty = true) (hS : pw_S K f s.heap []) (hls : ls.size = nL) {ix0 is ic ix : Nat} {E Y tx : String} {names : List String} {bs : ByteArray} (b0 : decode bs 0 = .ok (.aload_n 0, 1)) (b1 : decode bs 1 = .ok (.aload_n 1, 1)) (b2 : decode bs 2 = .ok (.invokespecial ix, 3)) (b5 : decode bs 5 = .ok (.return_, 1)) (hcl : Cond.classLink own ix0 E ∈ lw_G) (hins : (Cond.instantiable E 6).before args s = true) (hini : (Cond.initialized E).before args s = true) (hstr : ∃ q, vk_R own is tx q (pZ K))
    (hat : ∀ w ∈ nA own ic E Y ix bs names, w.before args s = true) (hE : Bundle.fit E = true) (hY : Bundle.fit Y = true) (hnm : ∀ n ∈ names, Bundle.fit n = true) (d0 : decode cc pc = .ok (.new ix0, 3)) (d3 : decode cc (pc + 3) = .ok (.dup, 1)) (d4 : decode cc (pc + 4) = .ok (.ldc is, 2)) (d6 : decode cc (pc + 6) = .ok (.invokespecial ic, 3)) (d9 : decode cc (pc + 9) = .ok (.athrow, 1))
    {post : pw_F → Prop} (hp : post f) {mc ms : Nat} (h1 : 0 + 1 ≤ mc) (h2 : 0 + 6 ≤ ms) (hRc : 0 + 1 ≤ R.cells) (hRs : 0 + 6 ≤ R.slots) (hRf : names.length + 4 < R.frames) (hRl : 13 * (names.length + 2) + 60 ≤ R.locals) :
    W p l e R s m args below meth c s.heap [] 0 0 (MQT below (pw_QT K E post) args s mc ms (fun q => (pZ K).heap.size ≤ q)) (F0 m pc ls []) := by
  obtain ⟨hx, hb, hml, hown, hts, hK, ⟨hlk, hns⟩, hZ, hW⟩ := X
  obtain ⟨q, hq⟩ := hstr
  refine W.newc hx hb hown (hts _ hcl) hins hini rfl d0 hRc hRs (fun cC kC e1 e2 e3 e4 => ?_)
  refine lv_dup (pc := pc + 3) (ls := ls) (rest := []) hx hb d3 rfl ?_
  refine va_ldcS hx hb hown (hq.warm hW) d4 ?_
  intro T hT XT
  have htr := Launch.traces_off hfl XT.admits
  have hcell : T.heap[s.heap.size]? = some (freshCell cC kC) := by rw [hT]; simp
  have hemp : c.exceptionTable.toList = [] := by
    have : c.exceptionTable = #[] := by simpa using hne
    rw [this]
  obtain ⟨U, hst, hrun, hend, hWU, hsame, ce, hce, hcls, hvm⟩ := nThrow XT hx htr b0 b1 b2 b5 hown hE hY hnm hat e1 e2 hcell (Nat.le_refl _) (msg := .ref q) rfl (g := F0 m (pc + 6) ls [.ref q, .ref s.heap.size, .ref s.heap.size]) rfl (by rw [hml]; exact hls) rfl rfl rfl (by rw [hb]; exact d6) (by rw [hb]; exact d9) hemp hlk hRf (by simp [JFrame.monitorRoom]; omega)
  have hk : ∀ x : Nat, x < s.heap.size → U.heap[x]? = s.heap[x]? := fun x hx2 => pw_same hsame hx2
  have hsz : s.heap.size ≤ U.heap.size := hsame.2.1
  refine ⟨U, hst, s.heap.size, hrun, hend, ⟨s.heap.size, f, rfl, ⟨ce, hce, (by rw [← hW.alike.findClass]; exact hcls), hvm⟩, hp, ?_, Nat.le_trans hS.2.2 hsz⟩, [], hWU, hsame.mono h1 h2, (fun x h => by cases h)⟩
  refine ⟨⟨fun x hx2 => (hk x (Nat.lt_of_lt_of_le hx2 hS.2.2)).trans (hS.1.1.1 x hx2), fun x cell hx2 hc => ?_⟩, fun x y hy => ⟨(hS.1.2 x y hy).1, (hS.1.2 x y hy).2.kept (hk x (hS.1.2 x y hy).2.lt)⟩⟩
  by_cases hlt : x < s.heap.size
  · exact hS.1.1.2 x cell hx2 ((hk x hlt).symm.trans hc)
  · have hlt2 : x < U.heap.size := (Array.getElem?_eq_some_iff.mp hc).1
    have hz3 : U.heap.size ≤ s.heap.size + (0 + 1) := hsame.2.2.1
    have hx3 : x = s.heap.size := by omega
    subst hx3
    cases hce.symm.trans hc
    rw [hvm]; rfl
end PWN
set_option maxRecDepth 20000 in
theorem at_NSE : ∀ w ∈ nA R_D 168 "java/util/NoSuchElementException" "java/lang/RuntimeException" 13 ⟨#[0x2a, 0x2b, 0xb7, 0x00, 0x0d, 0xb1]⟩ ["java/lang/Exception"], w ∈ lw_G ∨ at_ok w = true := at_split [402, 391, 38, 420, 977, 414, 417] rfl rfl (by decide +kernel)
