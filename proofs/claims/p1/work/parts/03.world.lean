/-! THE WORLD: one function from addresses to cells; all that the law's run has made lies at or above lo. -/
abbrev pw_K : Type := va_G × (Nat → ClassId) × State × Array Value
abbrev pD (K : pw_K) : va_G := K.1
abbrev pE (K : pw_K) : Nat → ClassId := K.2.1
abbrev pZ (K : pw_K) : State := K.2.2.1
abbrev pA (K : pw_K) : Array Value := K.2.2.2
abbrev pw_F : Type := Nat → Option va_E
/-- no cell of ours holds a class's statics -/
def pw_ns (K : pw_K) (H : Heap) : Prop := ∀ (q : Nat) (cell : Cell), (pZ K).heap.size ≤ q → H[q]? = some cell → cell.vm.isStatics = false
/-- below lo (the heap at the law's start) nothing has changed; what f names lies at or above lo and holds what f says -/
def pw_at (K : pw_K) (f : pw_F) (H : Heap) : Prop := ((∀ q : Nat, q < (pZ K).heap.size → H[q]? = (pZ K).heap[q]?) ∧ pw_ns K H) ∧ ∀ (q : Nat) (x : va_E), f q = some x → (pZ K).heap.size ≤ q ∧ va_at (pD K) cls (q, x) H
def pw_up (f : pw_F) (a : Nat) (x : va_E) : pw_F := fun q => if q = a then some x else f q
theorem pw_up_self (f : pw_F) (a : Nat) (x : va_E) : pw_up f a x a = some x := if_pos rfl
theorem pw_up_ne {f : pw_F} {a q : Nat} {x : va_E} (h : q ≠ a) : pw_up f a x q = f q := if_neg h
def pw_S (K : pw_K) (f : pw_F) (H : Heap) (locs : List Loc) : Prop := pw_at K f H ∧ (∀ x ∈ locs, (pZ K).heap.size ≤ x.base) ∧ (pZ K).heap.size ≤ H.size
abbrev pw_tys (E : Nat → ClassId) : List (ClassId × FieldType) := [(E 0, .int), (E 1, .long), (E 2, .boolean), (E 3, .byte), (E 4, .object R_Nu), (E 5, .object R_Py), (E 6, .object R_Ro), (E 7, .object R_He)]
/-- what the Statement gives of the law's start -/
def pw_Z (K : pw_K) : Prop := (∀ w ∈ lw_tbl, w.before (pA K) (pZ K) = true) ∧ va_K (pD K) cls (pw_tys (pE K)) (pZ K) ∧ (Jvm.Cond.and given_1 narrow_1).before (pA K) (pZ K) = true
/-- what stays the same all along a method's walk -/
def pw_X (p : Program) (s : State) (m : MethodId) (args : Array Value) (meth : Method) (c : Code) (K : pw_K) (own : String) (cc : ByteArray) (nL : Nat) : Prop :=
  p.tables.exec = Jvm.exec ∧ c.code = cc ∧ c.maxLocals = nL ∧ s.vm.findClass own = some m.cls ∧ (∀ w ∈ lw_G, w.before args s = true) ∧ va_K (pD K) cls (pw_tys (pE K)) s ∧ (meth.locks = false ∧ pw_ns K s.heap) ∧ pw_Z K ∧ (pZ K).WarmedH s.vm
def pw_cl (ci : Nat) (C : String) (T : u_T) (N : Nat) (ty : Nat → FieldType) : Prop :=
  cls[ci]? = some (C, T, N) ∧ (∀ w ∈ u_ws C T N, w ∈ lw_G) ∧ (∀ k, k < N → parseFieldDescriptor (T k).2.2.1 = some (ty k)) ∧ (∀ a, a < N → ∀ b, b < N → a ≠ b → (T a).2.1 ≠ (T b).2.1)
theorem pc_Nu : pw_cl 0 R_Nu F_Nu 3 t_Nu := ⟨rfl, i_Nu, t_Nu_ok, n_Nu⟩
theorem pc_Pt : pw_cl 1 R_Pt F_Pt 2 t_Pt := ⟨rfl, i_Pt, t_Pt_ok, n_Pt⟩
theorem pc_Py : pw_cl 2 R_Py F_Py 2 t_Py := ⟨rfl, i_Py, t_Py_ok, n_Py⟩
theorem pc_Di : pw_cl 3 R_Di F_Di 4 t_Di := ⟨rfl, i_Di, t_Di_ok, n_Di⟩
theorem pc_Be : pw_cl 4 R_Be F_Be 16 t_Be := ⟨rfl, i_Be, t_Be_ok, n_Be⟩
theorem pc_Ch : pw_cl 5 R_Ch F_Ch 3 t_Ch := ⟨rfl, i_Ch, t_Ch_ok, n_Ch⟩
theorem pc_Ro : pw_cl 6 R_Ro F_Ro 5 t_Ro := ⟨rfl, i_Ro, t_Ro_ok, n_Ro⟩
theorem pc_He : pw_cl 7 R_He F_He 9 t_He := ⟨rfl, i_He, t_He_ok, n_He⟩
theorem pc_Qu : pw_cl 8 R_Qu F_Qu 2 t_Qu := ⟨rfl, i_Qu, t_Qu_ok, n_Qu⟩
theorem pc_Tx : pw_cl 9 R_Tx F_Tx 4 t_Tx := ⟨rfl, i_Tx, t_Tx_ok, n_Tx⟩
theorem pc_D : pw_cl 10 R_D F_D 4 t_D := ⟨rfl, i_D, t_D_ok, n_D⟩
theorem pc_Mo : pw_cl 11 R_Mo F_Mo 11 t_Mo := ⟨rfl, i_Mo, t_Mo_ok, n_Mo⟩
theorem pw_one {K : pw_K} {f : pw_F} {H : Heap} (h : pw_at K f H) {a : Nat} {x : va_E} (ha : f a = some x) : va_P (pD K) cls [(a, x)] H := by
  intro k q hq
  cases k with
  | zero => cases hq; exact (h.2 a x ha).2
  | succ k => simp at hq
theorem pw_vm {D : va_G} {x : Nat × va_E} {H : Heap} (h : va_at D cls x H) {cell : Cell} (hc : H[x.1]? = some cell) : cell.vm.isStatics = false := by
  obtain ⟨q, y⟩ := x
  cases y with
  | inl a =>
    have h1 : H[q]? = some (vp_cell a.1 a.2) := h
    cases h1.symm.trans hc
    obtain ⟨ca, n, g⟩ := a
    rcases g with g | g | g | g | g <;> rfl
  | inr o =>
    obtain ⟨r, -, c2, g1, -, g3, -⟩ := h
    cases g1.symm.trans hc
    rw [g3]
    rfl
theorem pw_at.set {K : pw_K} {f : pw_F} {H H1 : Heap} {a : Nat} {x0 x : va_E} (h : pw_at K f H) (ha : f a = some x0) (hx : va_at (pD K) cls (a, x) H1) (oq : ∀ q : Nat, q ≠ a → H1[q]? = H[q]?) : pw_at K (pw_up f a x) H1 := by
  have hlo := (h.2 a x0 ha).1
  refine ⟨⟨fun q hq => (oq q (by omega)).trans (h.1.1 q hq), fun q cell hq hc => ?_⟩, fun q y hq => ?_⟩
  · by_cases e : q = a
    · subst e; exact pw_vm hx hc
    · exact h.1.2 q cell hq ((oq q e).symm.trans hc)
  by_cases e : q = a
  · subst e
    rw [pw_up_self] at hq
    cases hq
    exact ⟨hlo, hx⟩
  · rw [pw_up_ne e] at hq
    exact ⟨(h.2 q y hq).1, (h.2 q y hq).2.kept (oq q e)⟩
theorem pw_at.push {K : pw_K} {f : pw_F} {H H1 : Heap} {x : va_E} (h : pw_at K f H) (hlo : (pZ K).heap.size ≤ H.size) (hz : H1.size = H.size + 1) (hx : va_at (pD K) cls (H.size, x) H1) (oq : ∀ q : Nat, q < H.size → H1[q]? = H[q]?) : pw_at K (pw_up f H.size x) H1 := by
  refine ⟨⟨fun q hq => (oq q (by omega)).trans (h.1.1 q hq), fun q cell hq hc => ?_⟩, fun q y hq => ?_⟩
  · by_cases e : q = H.size
    · subst e; exact pw_vm hx hc
    · have hl : q < H1.size := (Array.getElem?_eq_some_iff.mp hc).1
      exact h.1.2 q cell hq ((oq q (by omega)).symm.trans hc)
  by_cases e : q = H.size
  · subst e
    rw [pw_up_self] at hq
    cases hq
    exact ⟨hlo, hx⟩
  · rw [pw_up_ne e] at hq
    exact ⟨(h.2 q y hq).1, (h.2 q y hq).2.kept (oq q (h.2 q y hq).2.lt)⟩
theorem pw_locs {lo a i : Nat} {locs : List Loc} (h : ∀ x ∈ locs, lo ≤ x.base) (ha : lo ≤ a) : ∀ x ∈ locs ++ [⟨a, i⟩], lo ≤ x.base := by
  intro x hx
  rcases List.mem_append.mp hx with q | q
  · exact h x q
  · rw [List.mem_singleton.mp q]; exact ha
section PW
variable {p : Program} {l : Launch} {e : Env} {R : Room} {s : State} {m : MethodId} {args : Array Value} {below : List Frame} {meth : Method} {c : Code} {H : Heap} {locs : List Loc} {cells slots : Nat} {Q : State → Prop}
variable {cc : ByteArray} {pc nL : Nat} {ls : Array Slot} {rest : List Value} {K : pw_K} {f : pw_F} {own : String}
theorem pw_get (X : pw_X p s m args meth c K own cc nL) (hS : pw_S K f H locs) {a ci N : Nat} {C ref : String} {T : u_T} {ty0 : Nat → FieldType} {fs : List Value} (ha : f a = some (.inr (ci, fs))) (hC : pw_cl ci C T N ty0) (k : Nat) (hk : k < N) {index : Nat}
    (hl : Cond.fieldLink own index ref (T k).2.1 (T k).2.2.1 ∈ lw_G) (hr : ref = (T k).1) {v : Value} (hv : fs[k]? = some v) (hdg : decode cc pc = .ok (.getfield index, 3))
    (kk : W p l e R s m args below meth c H locs cells slots Q (F0 m (pc + 3) ls (v :: rest))) : W p l e R s m args below meth c H locs cells slots Q (F0 m pc ls (.ref a :: rest)) := by
  obtain ⟨hx, hb, -, hown, hts, hK, -, -, -⟩ := X
  exact va_get (ws := [(a, .inr (ci, fs))]) hx hb hts hC.2.1 hown hK (pw_one hS.1 ha) 0 rfl hC.1 k hk (hts _ hl) (by subst hr; exact fun _ h => h) hv hdg kk
theorem pw_put (X : pw_X p s m args meth c K own cc nL) (hS : pw_S K f H locs) {a ci N : Nat} {C ref : String} {T : u_T} {ty0 : Nat → FieldType} {fs : List Value} (ha : f a = some (.inr (ci, fs))) (hC : pw_cl ci C T N ty0) (k : Nat) (hk : k < N) {index : Nat}
    (hl : Cond.fieldLink own index ref (T k).2.1 (T k).2.2.1 ∈ lw_G) (hr : ref = (T k).1) (hfin : (T k).2.2.2 = false) {v : Value} (hn : narrow (ty0 k) v = v) (hfit : fits (ty0 k) v = true) (hlen : k < fs.length) (hdg : decode cc pc = .ok (.putfield index, 3))
    (kk : ∀ (H1 : Heap) (locs1 : List Loc), H1.size = H.size → pw_S K (pw_up f a (.inr (ci, fs.set k v))) H1 locs1 → W p l e R s m args below meth c H1 locs1 cells slots Q (F0 m (pc + 3) ls rest)) : W p l e R s m args below meth c H locs cells slots Q (F0 m pc ls (v :: .ref a :: rest)) := by
  obtain ⟨hx, hb, -, hown, hts, hK, -, -, -⟩ := X
  obtain ⟨hc, hin, hty, hnm⟩ := hC
  have hap := va_apart (own := own) hts hin ty0 hty hnm hK hc
  obtain ⟨hlo, r, h1, cell, q1, q2, q3, q4⟩ := hS.1.2 a _ ha
  have hr1 : r = (C, T, N) := Option.some.inj (h1.symm.trans hc)
  subst hr1
  obtain ⟨hSl, hfc, kC, hkC, hkind⟩ := hK.1 ci _ hc
  obtain ⟨cf, kf, fi, fd, hi, hsl⟩ := hSl k hk
  have hlay := hts _ (hin _ (u_in_lay hk))
  unfold u_lay at hlay
  rw [if_neg (by rw [hfin]; decide)] at hlay
  have hst := (u_facts hfc hkC (u_lays hts hin hk) hi).1
  have h6 := u_store hfc hkC hkind hlay hi (hty k hk) hn hfit
  refine W.putK hx hb (f := fd) ⟨hown, hts _ hl, ⟨_, _, _, by rw [hr]; exact hi⟩, hst⟩ (by rw [q2]; exact h6) q1 q3 (by rw [hsl]; exact k2_hasslot (q4 k hk)) rfl rfl hdg fun H' e1 e2 e3 => ?_
  rw [hsl] at e1 ⊢
  exact kk H' _ e2 ⟨hS.1.set ha ⟨_, hc, t_OB.to (V := updV (vp_V fs) k v) ⟨_, e1, q2, q3, t_set q4 hap hk v⟩ (fun j _ => vp_updV_set hlen v j)⟩ e3, pw_locs hS.2.1 hlo, by rw [e2]; exact hS.2.2⟩
theorem pw_putF (X : pw_X p s m args meth c K own cc nL) (hS : pw_S K f H locs) {a ci N : Nat} {C ref : String} {T : u_T} {ty0 : Nat → FieldType} {fs : List Value} (ha : f a = some (.inr (ci, fs))) (hC : pw_cl ci C T N ty0) (k : Nat) (hk : k < N) {index : Nat}
    (hl : Cond.fieldLink own index ref (T k).2.1 (T k).2.2.1 ∈ lw_G) (hr : ref = (T k).1) (hfin : (T k).2.2.2 = true) (hin2 : meth.name = "<init>") (hdecl : (T k).1 = own) {v : Value} (hn : narrow (ty0 k) v = v) (hfit : fits (ty0 k) v = true) (hlen : k < fs.length) (hdg : decode cc pc = .ok (.putfield index, 3))
    (kk : ∀ (H1 : Heap) (locs1 : List Loc), H1.size = H.size → pw_S K (pw_up f a (.inr (ci, fs.set k v))) H1 locs1 → W p l e R s m args below meth c H1 locs1 cells slots Q (F0 m (pc + 3) ls rest)) : W p l e R s m args below meth c H locs cells slots Q (F0 m pc ls (v :: .ref a :: rest)) := by
  obtain ⟨hx, hb, -, hown, hts, hK, -, -, -⟩ := X
  obtain ⟨hc, hin, hty, hnm⟩ := hC
  have hap := va_apart (own := own) hts hin ty0 hty hnm hK hc
  obtain ⟨hlo, r, h1, cell, q1, q2, q3, q4⟩ := hS.1.2 a _ ha
  have hr1 : r = (C, T, N) := Option.some.inj (h1.symm.trans hc)
  subst hr1
  obtain ⟨hSl, hfc, kC, hkC, hkind⟩ := hK.1 ci _ hc
  obtain ⟨cf, kf, fi, fd, hi, hsl⟩ := hSl k hk
  have hlay := hts _ (hin _ (u_in_lay hk))
  unfold u_lay at hlay
  rw [if_pos hfin] at hlay
  have hst := (u_facts hfc hkC (u_lays hts hin hk) hi).1
  have hcf : m.cls = cf := by
    obtain ⟨_, _, c', _, _, _, -, -, hf', -, -, -, hown2, -⟩ := Cond.laysFinal_spec hlay
    have e1 : c' = cf := by have := hi.symm.trans hf'; simp at this; exact this.1.symm
    rw [hdecl] at hown2
    rw [← e1]; exact Option.some.inj (hown.symm.trans hown2)
  have h6 := u_fits hfc hkC hkind (Or.inr hlay) hi (hty k hk) hn hfit
  refine W.putFinK hx hb hown (hts _ hl) (by rw [hr]; exact hi) hst hcf hin2 (by rw [q2]; exact h6) q1 q3 (by rw [hsl]; exact k2_hasslot (q4 k hk)) rfl rfl hdg fun H' e1 e2 e3 => ?_
  rw [hsl] at e1 ⊢
  exact kk H' _ e2 ⟨hS.1.set ha ⟨_, hc, t_OB.to (V := updV (vp_V fs) k v) ⟨_, e1, q2, q3, t_set q4 hap hk v⟩ (fun j _ => vp_updV_set hlen v j)⟩ e3, pw_locs hS.2.1 hlo, by rw [e2]; exact hS.2.2⟩
theorem pw_ild (X : pw_X p s m args meth c K own cc nL) (hS : pw_S K f H locs) {a n : Nat} {g : Nat → Int32} (ha : f a = some (.inl (pE K 0, n, .inl g))) {i : Int32} (hin : vp_in i n) (hdg : decode cc pc = .ok (.iaload, 1))
    (kk : W p l e R s m args below meth c H locs cells slots Q (F0 m (pc + 1) ls (.int (g i.toNatClampNeg) :: rest))) : W p l e R s m args below meth c H locs cells slots Q (F0 m pc ls (.int i :: .ref a :: rest)) := by
  obtain ⟨hx, hb, -, hown, hts, hK, -, -, -⟩ := X
  exact va_iald hx hb hK (pw_one hS.1 ha) 0 0 rfl rfl hin hdg kk
theorem pw_lld (X : pw_X p s m args meth c K own cc nL) (hS : pw_S K f H locs) {a n : Nat} {g : Nat → Int64} (ha : f a = some (.inl (pE K 1, n, .inr (.inl g)))) {i : Int32} (hin : vp_in i n) (hdg : decode cc pc = .ok (.laload, 1))
    (kk : W p l e R s m args below meth c H locs cells slots Q (F0 m (pc + 1) ls (.long (g i.toNatClampNeg) :: rest))) : W p l e R s m args below meth c H locs cells slots Q (F0 m pc ls (.int i :: .ref a :: rest)) := by
  obtain ⟨hx, hb, -, hown, hts, hK, -, -, -⟩ := X
  exact va_lald hx hb hK (pw_one hS.1 ha) 0 1 rfl rfl hin hdg kk
theorem pw_zld (X : pw_X p s m args meth c K own cc nL) (hS : pw_S K f H locs) {a n : Nat} {g : Nat → Int32} (ha : f a = some (.inl (pE K 2, n, .inl g))) {i : Int32} (hin : vp_in i n) (hdg : decode cc pc = .ok (.baload, 1))
    (kk : W p l e R s m args below meth c H locs cells slots Q (F0 m (pc + 1) ls (.int (g i.toNatClampNeg) :: rest))) : W p l e R s m args below meth c H locs cells slots Q (F0 m pc ls (.int i :: .ref a :: rest)) := by
  obtain ⟨hx, hb, -, hown, hts, hK, -, -, -⟩ := X
  exact va_zald hx hb hK (pw_one hS.1 ha) 0 2 rfl rfl hin hdg kk
theorem pw_bld (X : pw_X p s m args meth c K own cc nL) (hS : pw_S K f H locs) {a n : Nat} {g : Nat → Int32} (ha : f a = some (.inl (pE K 3, n, .inl g))) {i : Int32} (hin : vp_in i n) (hdg : decode cc pc = .ok (.baload, 1))
    (kk : W p l e R s m args below meth c H locs cells slots Q (F0 m (pc + 1) ls (.int (g i.toNatClampNeg) :: rest))) : W p l e R s m args below meth c H locs cells slots Q (F0 m pc ls (.int i :: .ref a :: rest)) := by
  obtain ⟨hx, hb, -, hown, hts, hK, -, -, -⟩ := X
  exact va_bald hx hb hK (pw_one hS.1 ha) 0 3 rfl rfl hin hdg kk
theorem pw_ald (X : pw_X p s m args meth c K own cc nL) (hS : pw_S K f H locs) {a n : Nat} {cA : ClassId} {C : String} {g : Nat → Option Nat} (t0 : Nat) (ht : (pw_tys (pE K))[t0]? = some (cA, .object C)) (ha : f a = some (.inl (cA, n, .inr (.inr (.inr (.inr g)))))) {i : Int32} (hin : vp_in i n) {b : Nat} (hv : g i.toNatClampNeg = some b) (hdg : decode cc pc = .ok (.aaload, 1))
    (kk : W p l e R s m args below meth c H locs cells slots Q (F0 m (pc + 1) ls (.ref b :: rest))) : W p l e R s m args below meth c H locs cells slots Q (F0 m pc ls (.int i :: .ref a :: rest)) := by
  obtain ⟨hx, hb, -, hown, hts, hK, -, -, -⟩ := X
  exact va_aldq hx hb hK (pw_one hS.1 ha) 0 t0 rfl ht hin hdg (by rw [hv]; exact kk)
theorem pw_len (X : pw_X p s m args meth c K own cc nL) (hS : pw_S K f H locs) {a : Nat} {cA : ClassId} {x : vp_A} {ty : FieldType} (t0 : Nat) (ht : (pw_tys (pE K))[t0]? = some (cA, ty)) (ha : f a = some (.inl (cA, x))) {v : Int32} (hv : Int32.ofNat x.1 = v) (hdg : decode cc pc = .ok (.arraylength, 1))
    (kk : W p l e R s m args below meth c H locs cells slots Q (F0 m (pc + 1) ls (.int v :: rest))) : W p l e R s m args below meth c H locs cells slots Q (F0 m pc ls (.ref a :: rest)) := by
  obtain ⟨hx, hb, -, hown, hts, hK, -, -, -⟩ := X
  exact va_alen hx hb hK (pw_one hS.1 ha) 0 t0 rfl ht hv hdg kk
theorem pw_ist (X : pw_X p s m args meth c K own cc nL) (hS : pw_S K f H locs) {a n : Nat} {g : Nat → Int32} (ha : f a = some (.inl (pE K 0, n, .inl g))) {i x : Int32} (hin : vp_in i n) (hdg : decode cc pc = .ok (.iastore, 1))
    (kk : ∀ (H1 : Heap) (locs1 : List Loc), H1.size = H.size → pw_S K (pw_up f a (.inl (pE K 0, n, .inl (upd g i.toNatClampNeg x)))) H1 locs1 → W p l e R s m args below meth c H1 locs1 cells slots Q (F0 m (pc + 1) ls rest)) : W p l e R s m args below meth c H locs cells slots Q (F0 m pc ls (.int x :: .int i :: .ref a :: rest)) := by
  obtain ⟨hx, hb, -, hown, hts, hK, -, -, -⟩ := X
  obtain ⟨hlo, hcell⟩ := hS.1.2 a _ ha
  refine W.iast hx hb hcell ((hK.2 0 _ rfl).1 n (fun j => .int (g j))) (fun q => by cases q) (by show ¬ (i < 0 ∨ (arrV _ _ _).slots.size ≤ _); rw [arrV_size]; exact hin) rfl rfl hdg fun H1 e1 z oq => ?_
  refine kk H1 _ z ⟨hS.1.set ha ?_ oq, pw_locs hS.2.1 hlo, by rw [z]; exact hS.2.2⟩
  show H1[a]? = some (vp_cell _ _)
  rw [e1, vp_cell_i, vp_cell_i, arrV_store]
  congr 2
  funext q
  by_cases hq : q = i.toNatClampNeg
  · subst hq; simp [updV, upd]
  · simp [updV, upd, hq]
theorem pw_lst (X : pw_X p s m args meth c K own cc nL) (hS : pw_S K f H locs) {a n : Nat} {g : Nat → Int64} (ha : f a = some (.inl (pE K 1, n, .inr (.inl g)))) {i : Int32} {x : Int64} (hin : vp_in i n) (hdg : decode cc pc = .ok (.lastore, 1))
    (kk : ∀ (H1 : Heap) (locs1 : List Loc), H1.size = H.size → pw_S K (pw_up f a (.inl (pE K 1, n, .inr (.inl (vp_updL g i.toNatClampNeg x))))) H1 locs1 → W p l e R s m args below meth c H1 locs1 cells slots Q (F0 m (pc + 1) ls rest)) : W p l e R s m args below meth c H locs cells slots Q (F0 m pc ls (.long x :: .int i :: .ref a :: rest)) := by
  obtain ⟨hx, hb, -, hown, hts, hK, -, -, -⟩ := X
  obtain ⟨hlo, hcell⟩ := hS.1.2 a _ ha
  refine W.last hx hb hcell ((hK.2 1 _ rfl).1 n (fun j => .long (g j))) (fun q => by cases q) (by show ¬ (i < 0 ∨ (arrV _ _ _).slots.size ≤ _); rw [arrV_size]; exact hin) rfl rfl hdg fun H1 e1 z oq => ?_
  refine kk H1 _ z ⟨hS.1.set ha ?_ oq, pw_locs hS.2.1 hlo, by rw [z]; exact hS.2.2⟩
  show H1[a]? = some (vp_cell _ _)
  rw [e1, vp_cell_l, vp_cell_l, arrV_store]
  congr 2
  funext q
  by_cases hq : q = i.toNatClampNeg
  · subst hq; simp [updV, vp_updL]
  · simp [updV, vp_updL, hq]
theorem pw_ast (X : pw_X p s m args meth c K own cc nL) (hS : pw_S K f H locs) {a n v : Nat} {cA : ClassId} {r : vw_C} {ci : Nat} {vs : List Value} {g : Nat → Option Nat} (t0 : Nat) (ht : (pw_tys (pE K))[t0]? = some (cA, .object r.1)) (ha : f a = some (.inl (cA, n, .inr (.inr (.inr (.inr g)))))) (hv : f v = some (.inr (ci, vs))) (hc : cls[ci]? = some r) {i : Int32} (hin : vp_in i n) (hdg : decode cc pc = .ok (.aastore, 1))
    (kk : ∀ (H1 : Heap) (locs1 : List Loc), H1.size = H.size → pw_S K (pw_up f a (.inl (cA, n, .inr (.inr (.inr (.inr (va_up g i.toNatClampNeg (some v)))))))) H1 locs1 → W p l e R s m args below meth c H1 locs1 cells slots Q (F0 m (pc + 1) ls rest)) : W p l e R s m args below meth c H locs cells slots Q (F0 m pc ls (.ref v :: .int i :: .ref a :: rest)) := by
  obtain ⟨hx, hb, -, hown, hts, hK, -, -, -⟩ := X
  have hlt : i.toNatClampNeg < n := Nat.not_le.mp fun q => hin (Or.inr q)
  have h0 : ¬ i < 0 := fun q => hin (Or.inl q)
  obtain ⟨hlo, hcell⟩ := hS.1.2 a _ ha
  obtain ⟨-, r', hr', cellV, g1, g2, g3, -⟩ := hS.1.2 v _ hv
  have hcls := (hK.1 ci r hc).2
  obtain ⟨kA, comp, k1, k2, k3, -⟩ := (hK.2 t0 _ ht).2
  have hcomp : comp = (pD K).1 ci := Option.some.inj (k3.symm.trans hcls.1)
  subst hcomp
  obtain ⟨kC, hkC, -⟩ := hcls.2
  refine W.aast hx hb hcell (fun q h => by cases h) (fun h => by cases h) k1 k2 rfl hkC ⟨h0, by show _ < (arrV _ _ _).slots.size; rw [arrV_size]; exact hlt⟩ g1 (fun q h => by rw [g3] at h; cases h) (by rw [g2]; exact hkC) (by rw [g2]; exact va_assign hcls) rfl rfl hdg fun H1 e1 z oq => ?_
  refine kk H1 _ z ⟨hS.1.set ha ?_ oq, pw_locs hS.2.1 hlo, by rw [z]; exact hS.2.2⟩
  show H1[a]? = some (vp_cell _ _)
  rw [e1, vp_cell_q, vp_cell_q, arrV_store]
  congr 2
  funext q
  by_cases hq : q = i.toNatClampNeg
  · subst hq; simp [updV, va_up, va_rf]
  · simp [updV, va_up, hq]
theorem pw_new (X : pw_X p s m args meth c K own cc nL) (hS : pw_S K f H locs) {ci N index : Nat} {C : String} {T : u_T} {ty0 : Nat → FieldType} (hC : pw_cl ci C T N ty0) (hcl : Cond.classLink own index C ∈ lw_G) (hinst : Cond.instantiable C N ∈ lw_G) (hini : Cond.initialized C ∈ lw_G) {fs : List Value} (hfs : ∀ j, j < N → defaultValue (ty0 j) = vp_V fs j)
    (hcells : cells + 1 ≤ R.cells) (hslots : slots + N ≤ R.slots) (hdg : decode cc pc = .ok (.new index, 3)) {z : Nat} (hz : H.size = z)
    (kk : ∀ (H1 : Heap), H1.size = z + 1 → pw_S K (pw_up f z (.inr (ci, fs))) H1 locs → W p l e R s m args below meth c H1 locs (cells + 1) (slots + N) Q (F0 m (pc + 3) ls (.ref z :: rest))) : W p l e R s m args below meth c H locs cells slots Q (F0 m pc ls rest) := by
  obtain ⟨hx, hb, -, hown, hts, hK, -, -, -⟩ := X
  subst hz
  have hKn := hK.1 ci _ hC.1
  refine W.newcK hx hb hown (hts _ hcl) (hts _ hinst) (hts _ hini) rfl hdg hcells hslots hKn.2.1 rfl fun H1 kC hkC e1 z1 o1 => ?_
  exact kk H1 z1 ⟨hS.1.push hS.2.2 z1 ⟨_, hC.1, (u_born ty0 hts hC.2.1 hKn hkC e1 hC.2.2.1).to hfs⟩ o1, hS.2.1, by rw [z1]; have := hS.2.2; omega⟩
theorem pw_newa (X : pw_X p s m args meth c K own cc nL) (hS : pw_S K f H locs) {atype : ArrayType} {ty : FieldType} (hty : newarray.typeOf atype = ty) (harr : Cond.arrayClass ty ∈ lw_G) (t0 : Nat) {cA : ClassId} (ht : (pw_tys (pE K))[t0]? = some (cA, ty)) (hprim : ty.isReference = false)
    {n : Int32} {N' : Nat} {a0 : vp_A} (ha : ∀ cA : ClassId, vp_cell cA a0 = arrV cA N' (fun _ => defaultValue ty)) (hn : ¬ n < 0) (hN : n.toNatClampNeg = N') (hbytes : N' * componentBytes ty ≤ 536870912) (hcells : cells + 1 ≤ R.cells) (hslots : slots + N' ≤ R.slots) (hdg : decode cc pc = .ok (.newarray atype, 2)) {z : Nat} (hz : H.size = z)
    (kk : ∀ (H1 : Heap), H1.size = z + 1 → pw_S K (pw_up f z (.inl (cA, a0))) H1 locs → W p l e R s m args below meth c H1 locs (cells + 1) (slots + N') Q (F0 m (pc + 2) ls (.ref z :: rest))) : W p l e R s m args below meth c H locs cells slots Q (F0 m pc ls (.int n :: rest)) := by
  obtain ⟨hx, hb, -, hown, hts, hK, -, -, -⟩ := X
  subst hz
  subst hty
  refine va_newaK hx hb (hts _ harr) rfl hdg rfl hn hN hbytes hcells hslots rfl fun H1 cA' e1 z1 o1 hAr hNm => ?_
  have hca : cA' = cA := by
    have h2 := (hK.2 t0 _ ht).2
    cases atype <;> first | (exact Option.some.inj (hNm.symm.trans h2)) | (simp [newarray.typeOf, FieldType.isReference] at hprim)
  subst hca
  refine kk H1 z1 ⟨hS.1.push hS.2.2 z1 ?_ o1, hS.2.1, by rw [z1]; have := hS.2.2; omega⟩
  show H1[H.size]? = some (vp_cell _ _)
  rw [ha]
  exact e1
theorem pw_newq (X : pw_X p s m args meth c K own cc nL) (hS : pw_S K f H locs) {index : Nat} {C : String} (hcl : Cond.classLink own index C ∈ lw_G) (hover : Cond.arrayOver (.object C) ∈ lw_tbl) (t0 : Nat) {cA : ClassId} (ht : (pw_tys (pE K))[t0]? = some (cA, .object C))
    {n : Int32} {N' : Nat} (hn : ¬ n < 0) (hN : n.toNatClampNeg = N') (hbytes : N' * 4 ≤ 536870912) (hcells : cells + 1 ≤ R.cells) (hslots : slots + N' ≤ R.slots) (hdg : decode cc pc = .ok (.anewarray index, 3)) {z : Nat} (hz : H.size = z)
    (kk : ∀ (H1 : Heap), H1.size = z + 1 → pw_S K (pw_up f z (.inl (cA, N', .inr (.inr (.inr (.inr (fun _ => none))))))) H1 locs → W p l e R s m args below meth c H1 locs (cells + 1) (slots + N') Q (F0 m (pc + 3) ls (.ref z :: rest))) : W p l e R s m args below meth c H locs cells slots Q (F0 m pc ls (.int n :: rest)) := by
  obtain ⟨hx, hb, -, hown, hts, hK, -, hZ, hW⟩ := X
  subst hz
  subst hN
  have hAO : va_AO C s := va_AO.moved hW.alike (va_AO.of (hZ.1 _ hover))
  refine W.anew hx hb hown (hts _ hcl) (va_AO.use hAO) rfl hdg rfl hn hbytes hcells hslots fun cA' kA comp f1 f2 f3 f4 => ?_
  have hca : cA' = cA := by
    obtain ⟨kA2, comp2, -, -, -, g4⟩ := (hK.2 t0 _ ht).2
    exact Option.some.inj (f1.symm.trans g4)
  subst hca
  generalize hH1 : H.push ({ cls := cA', slots := Array.replicate n.toNatClampNeg .null, vm := .none } : Cell) = H1
  have z1 : H1.size = H.size + 1 := by rw [← hH1, Array.size_push]
  have e1 : H1[H.size]? = some (arrV cA' n.toNatClampNeg (fun _ => .null)) := by rw [← hH1, Array.getElem?_push_size, ← arrV_new]
  have o1 : ∀ q : Nat, q < H.size → H1[q]? = H[q]? := fun q hq => by rw [← hH1, Array.getElem?_push, if_neg (Nat.ne_of_lt hq)]
  refine kk H1 z1 ⟨hS.1.push hS.2.2 z1 ?_ o1, hS.2.1, by rw [z1]; have := hS.2.2; omega⟩
  show H1[H.size]? = some (vp_cell _ _)
  rw [vp_cell_q]
  exact e1
end PW
