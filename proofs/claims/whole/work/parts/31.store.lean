/-! A STORE OF WHOLE NUMBERS over a layout that stays: walks without the machine's state -/
abbrev q_L : Type := Nat → Option ((Nat × List (Option Nat)) ⊕ (Nat × Nat × Option (Nat → Option Nat)))
abbrev q_S : Type := Nat → Nat → Int
def vi (z : Int) : Value := .int (Int32.ofInt z)
def vl (z : Int) : Value := .long (Int64.ofInt z)
/-- an object's fields: a fixed reference, or the store's number -/
def q_fl (s : Nat → Int) : Nat → List (Option Nat) → List Value
  | _, [] => []
  | k, some b :: t => .ref b :: q_fl s (k + 1) t
  | k, none :: t => vi (s k) :: q_fl s (k + 1) t
def q_e (K : pw_K) (σ : q_S) (q : Nat) (c : (Nat × List (Option Nat)) ⊕ (Nat × Nat × Option (Nat → Option Nat))) : va_E :=
  match c with
  | .inl (ci, fs) => .inr (ci, q_fl (σ q) 0 fs)
  | .inr (t, n, none) => .inl (pE K t, n, .inl (fun j => Int32.ofInt (σ q j)))
  | .inr (t, n, some g) => .inl (pE K t, n, .inr (.inr (.inr (.inr g))))
def q_at (K : pw_K) (L : q_L) (σ : q_S) (f : pw_F) : Prop := ∀ q c, L q = some c → f q = some (q_e K σ q c)
def q_up (σ : q_S) (a k : Nat) (z : Int) : q_S := fun q j => if q = a ∧ j = k then z else σ q j
theorem q_up_self (σ : q_S) (a k : Nat) (z : Int) : q_up σ a k z a k = z := if_pos ⟨rfl, rfl⟩
theorem q_up_ne (σ : q_S) {a k q j : Nat} (z : Int) (h : ¬ (q = a ∧ j = k)) : q_up σ a k z q j = σ q j := if_neg h
theorem q_up_a (σ : q_S) {a k q : Nat} (z : Int) (h : q ≠ a) : q_up σ a k z q = σ q := funext fun j => if_neg (fun c => h c.1)
theorem q_up_k (σ : q_S) {a k j : Nat} (z : Int) (h : j ≠ k) : q_up σ a k z a j = σ a j := if_neg (fun c => h c.2)
theorem q_fl_int (s : Nat → Int) : ∀ (fs : List (Option Nat)) (k j : Nat), fs[j]? = some none → (q_fl s k fs)[j]? = some (vi (s (k + j))) := by
  intro fs
  induction fs with
  | nil => intro k j h; simp at h
  | cons x t ih =>
    intro k j h
    cases j with
    | zero => simp at h; subst h; rfl
    | succ j =>
      have h2 := ih (k + 1) j (by simpa using h)
      rw [show k + 1 + j = k + (j + 1) by omega] at h2
      cases x <;> simpa [q_fl] using h2
theorem q_fl_ref (s : Nat → Int) {b : Nat} : ∀ (fs : List (Option Nat)) (k j : Nat), fs[j]? = some (some b) → (q_fl s k fs)[j]? = some (.ref b) := by
  intro fs
  induction fs with
  | nil => intro k j h; simp at h
  | cons x t ih =>
    intro k j h
    cases j with
    | zero => simp at h; subst h; rfl
    | succ j =>
      have h2 := ih (k + 1) j (by simpa using h)
      cases x <;> simpa [q_fl] using h2
theorem q_fl_len (s : Nat → Int) : ∀ (fs : List (Option Nat)) (k : Nat), (q_fl s k fs).length = fs.length := by
  intro fs
  induction fs with
  | nil => intro k; rfl
  | cons x t ih => intro k; cases x <;> simp [q_fl, ih]
theorem q_fl_congr {s s' : Nat → Int} : ∀ (fs : List (Option Nat)) (k : Nat), (∀ i, k ≤ i → s i = s' i) → q_fl s k fs = q_fl s' k fs := by
  intro fs
  induction fs with
  | nil => intro k h; rfl
  | cons x t ih =>
    intro k h
    have h2 := ih (k + 1) (fun i hi => h i (by omega))
    cases x with
    | none => simp only [q_fl, h2, h k (Nat.le_refl k)]
    | some b => simp only [q_fl, h2]
theorem q_fl_set (s : Nat → Int) (z : Int) : ∀ (fs : List (Option Nat)) (k j : Nat), fs[j]? = some none → (q_fl s k fs).set j (vi z) = q_fl (fun i => if i = k + j then z else s i) k fs := by
  intro fs
  induction fs with
  | nil => intro k j h; simp at h
  | cons x t ih =>
    intro k j h
    cases j with
    | zero =>
      simp at h
      subst h
      have h2 : q_fl s (k + 1) t = q_fl (fun i => if i = k + 0 then z else s i) (k + 1) t := q_fl_congr t (k + 1) (fun i hi => (if_neg (by omega)).symm)
      simp only [q_fl, List.set_cons_zero, h2]
      simp
    | succ j =>
      have h2 := ih (k + 1) j (by simpa using h)
      rw [show k + 1 + j = k + (j + 1) by omega] at h2
      cases x with
      | none =>
        simp only [q_fl, List.set_cons_succ, h2]
        rw [if_neg (by omega)]
      | some b => simp only [q_fl, List.set_cons_succ, h2]
theorem q_at.put {K : pw_K} {L : q_L} {σ : q_S} {f : pw_F} {a ci k : Nat} {fs : List (Option Nat)} (h : q_at K L σ f) (ha : L a = some (.inl (ci, fs))) (hk : fs[k]? = some none) (z : Int) : q_at K L (q_up σ a k z) (pw_up f a (.inr (ci, (q_fl (σ a) 0 fs).set k (vi z)))) := by
  intro q c hq
  by_cases e : q = a
  · subst e
    cases hq.symm.trans ha
    rw [pw_up_self, q_fl_set _ _ _ _ _ hk]
    show some (Sum.inr (ci, q_fl _ 0 fs)) = some (Sum.inr (ci, q_fl _ 0 fs))
    rw [q_fl_congr (s' := q_up σ q k z q) fs 0 (fun i _ => ?_)]
    show _ = if q = q ∧ i = k then z else σ q i
    simp
  · rw [pw_up_ne e, h q c hq]
    rcases c with ⟨ci', fs'⟩ | ⟨t, n, g⟩
    · simp only [q_e, q_up_a σ z e]
    · cases g <;> simp only [q_e, q_up_a σ z e]
theorem q_at.set {K : pw_K} {L : q_L} {σ : q_S} {f : pw_F} {a t n : Nat} (h : q_at K L σ f) (ha : L a = some (.inr (t, n, none))) (k : Nat) (z : Int) : q_at K L (q_up σ a k z) (pw_up f a (.inl (pE K t, n, .inl (upd (fun j => Int32.ofInt (σ a j)) k (Int32.ofInt z))))) := by
  intro q c hq
  by_cases e : q = a
  · subst e
    cases hq.symm.trans ha
    rw [pw_up_self]
    simp only [q_e]
    have e2 : upd (fun j => Int32.ofInt (σ q j)) k (Int32.ofInt z) = fun j => Int32.ofInt (q_up σ q k z q j) := by
      funext j
      unfold upd q_up
      by_cases hj : j = k
      · simp [hj]
      · simp [hj]
    rw [e2]
  · rw [pw_up_ne e, h q c hq]
    rcases c with ⟨ci', fs'⟩ | ⟨t, n, g⟩
    · simp only [q_e, q_up_a σ z e]
    · cases g <;> simp only [q_e, q_up_a σ z e]
-- locals: what is known of each place
def q_lv : Nat → List (Option Value) → List (Nat × Value)
  | _, [] => []
  | k, none :: t => q_lv (k + 1) t
  | k, some v :: t => (k, v) :: q_lv (k + 1) t
theorem q_lv_mem : ∀ (lv : List (Option Value)) (k i : Nat) (v : Value), (i, v) ∈ q_lv k lv ↔ k ≤ i ∧ lv[i - k]? = some (some v) := by
  intro lv
  induction lv with
  | nil => intro k i v; simp [q_lv]
  | cons x t ih =>
    intro k i v
    have e : k < i → (x :: t)[i - k]? = t[i - (k + 1)]? := fun h => by
      rw [show i - k = (i - (k + 1)) + 1 by omega]; rfl
    cases x with
    | none =>
      show (i, v) ∈ q_lv (k + 1) t ↔ _
      rw [ih]
      by_cases hk : k < i
      · rw [e hk]; constructor <;> intro h <;> exact ⟨by omega, h.2⟩
      · constructor
        · intro h; omega
        · intro h
          have h0 : i - k = 0 := by omega
          rw [h0] at h
          simp at h
    | some w =>
      show (i, v) ∈ (k, w) :: q_lv (k + 1) t ↔ _
      rw [List.mem_cons, ih]
      by_cases hk : k < i
      · rw [e hk]
        constructor
        · intro h
          rcases h with h | h
          · cases h; omega
          · exact ⟨by omega, h.2⟩
        · intro h; exact Or.inr ⟨by omega, h.2⟩
      · constructor
        · intro h
          rcases h with h | h
          · cases h; simp
          · omega
        · intro h
          have h0 : i = k := by omega
          subst h0
          have h2 := h.2
          simp at h2
          subst h2
          exact Or.inl rfl
theorem q_lv_at {ls : Array Slot} {nL : Nat} {lv : List (Option Value)} (h : lv_has ls nL (q_lv 0 lv)) (i : Nat) {v : Value} (hk : lv[i]? = some (some v)) : ls[i]? = some (.val v) :=
  h.2.2 (i, v) ((q_lv_mem lv 0 i v).mpr ⟨Nat.zero_le i, hk⟩)
def q_nl (x : Option Value) : Bool := match x with
  | some v => v.category == 1
  | none => true
theorem q_st1 {lv lv' : List (Option Value)} {i : Nat} {v : Value} (hp : ∀ j, j + 1 = i → ∀ w, lv[j]? = some w → q_nl w = true) (hl : lv.set i (some v) = lv') : ∀ q ∈ q_lv 0 lv', q ∈ (i, v) :: (q_lv 0 lv).filter (fun q => !(q.1 == i) && !(q.1 + 1 == i && q.2.category == 2)) := by
  intro q hq
  obtain ⟨j, w⟩ := q
  have h := ((q_lv_mem lv' 0 j w).mp hq).2
  rw [← hl, Nat.sub_zero, List.getElem?_set] at h
  by_cases e : i = j
  · subst e
    rw [if_pos rfl] at h
    split at h
    · cases h; exact List.mem_cons_self
    · cases h
  · rw [if_neg e] at h
    refine List.mem_cons_of_mem _ (List.mem_filter.mpr ⟨(q_lv_mem lv 0 j w).mpr ⟨Nat.zero_le _, by simpa using h⟩, ?_⟩)
    have e1 : (j == i) = false := by simp; omega
    have e2 : (j + 1 == i && w.category == 2) = false := by
      by_cases ej : j + 1 = i
      · have := hp j ej _ h
        simp only [q_nl, beq_iff_eq] at this
        simp [this]
      · simp [ej]
    simp [e1, e2]
theorem q_st2 {lv lv' : List (Option Value)} {i : Nat} {v : Value} (hp : ∀ j, j + 1 = i → ∀ w, lv[j]? = some w → q_nl w = true) (hl : (lv.set i (some v)).set (i + 1) none = lv') : ∀ q ∈ q_lv 0 lv', q ∈ (i, v) :: (q_lv 0 lv).filter (fun q => !(q.1 == i) && (!(q.1 == i + 1) && !(q.1 + 1 == i && q.2.category == 2))) := by
  intro q hq
  obtain ⟨j, w⟩ := q
  have h := ((q_lv_mem lv' 0 j w).mp hq).2
  rw [← hl, Nat.sub_zero, List.getElem?_set] at h
  by_cases e0 : i + 1 = j
  · rw [if_pos e0] at h
    split at h <;> simp at h
  rw [if_neg e0, List.getElem?_set] at h
  by_cases e : i = j
  · subst e
    rw [if_pos rfl] at h
    split at h
    · cases h; exact List.mem_cons_self
    · cases h
  · rw [if_neg e] at h
    refine List.mem_cons_of_mem _ (List.mem_filter.mpr ⟨(q_lv_mem lv 0 j w).mpr ⟨Nat.zero_le _, by simpa using h⟩, ?_⟩)
    have e1 : (j == i) = false := by simp; omega
    have e3 : (j == i + 1) = false := by simp; omega
    have e2 : (j + 1 == i && w.category == 2) = false := by
      by_cases ej : j + 1 = i
      · have := hp j ej _ h
        simp only [q_nl, beq_iff_eq] at this
        simp [this]
      · simp [ej]
    simp [e1, e2, e3]
theorem q_has {ls : Array Slot} {nL : Nat} {l l' : List (Nat × Value)} (h : lv_has ls nL l) (hs : ∀ q ∈ l', q ∈ l) : lv_has ls nL l' := ⟨h.1, h.2.1, fun q hq => h.2.2 q (hs q hq)⟩
-- what a method may end with
def q_P (K : pw_K) (L : q_L) (f0 : pw_F) (sz : Nat) (post : Option Value → q_S → Prop) : Option Value → pw_F → Nat → Prop := fun v f' z => z = sz ∧ ∃ σ' : q_S, q_at K L σ' f' ∧ (∀ q, L q = none → f' q = f0 q) ∧ post v σ'
/-- method y, from the store σ -/
def q_C (l : Launch) (K : pw_K) (L : q_L) (y : MethodName) (b : ByteArray) (nL : Nat) (ret : Option FieldType) (d : Nat) (av : List Value) (σ : q_S) (post : Option Value → q_S → Prop) : Prop :=
  ∀ (f : pw_F) (sz : Nat), q_at K L σ f → pw_C l K y b nL ret (rmk d 0 0) f av sz (q_P K L f sz post)
/-- the walk from pc on: it ends with post -/
def q_T (l : Launch) (K : pw_K) (L : q_L) (own : String) (cc : ByteArray) (nL : Nat) (ret : Option FieldType) (d : Nat) (post : Option Value → q_S → Prop) (pc : Nat) (lv : List (Option Value)) (st : List Value) (σ : q_S) : Prop :=
  ∀ (p : Program) (e : Env) (s : State) (m : MethodId) (args : Array Value) (below : List Frame) (meth : Method) (c : Code) (H : Heap) (locs : List Loc) (ls : Array Slot) (f f0 : pw_F) (sz : Nat), pw_X p s m args meth c K own cc nL → meth.sig.returnType = ret → H.size = sz → pw_S K f H locs → q_at K L σ f → (∀ q, L q = none → f q = f0 q) → lv_has ls nL (q_lv 0 lv) →
    W p l e (rmk d 0 0) s m args below meth c H locs 0 0 (MQ below (pw_Q K (q_P K L f0 sz post)) args s 0 0 (fun q => (pZ K).heap.size ≤ q)) (F0 m pc ls st)
theorem q_tp {p : Program} {l : Launch} {e : Env} {R : Room} {s : State} {m : MethodId} {args : Array Value} {below : List Frame} {meth : Method} {c : Code} {H : Heap} {locs : List Loc} {cells slots : Nat} {Q : State → Prop} {pc : Nat} {ls : Array Slot} {v w : Value} {st : List Value} (h : v = w) (k : W p l e R s m args below meth c H locs cells slots Q (F0 m pc ls (w :: st))) : W p l e R s m args below meth c H locs cells slots Q (F0 m pc ls (v :: st)) := h ▸ k
-- numbers
theorem q_ti {x : Int} (h : -2147483648 ≤ x ∧ x < 2147483648) : (Int32.ofInt x).toInt = x := Int32.toInt_ofInt_of_le (by exact h.1) (by exact h.2)
theorem q_tl {x : Int} (h : -9223372036854775808 ≤ x ∧ x < 9223372036854775808) : (Int64.ofInt x).toInt = x := Int64.toInt_ofInt_of_le (by exact h.1) (by exact h.2)
theorem q_nat (k : Nat) : Int32.ofInt (k : Int) = nI k := rfl
theorem q_lt {x y : Int} (hx : -2147483648 ≤ x ∧ x < 2147483648) (hy : -2147483648 ≤ y ∧ y < 2147483648) : Int32.ofInt x < Int32.ofInt y ↔ x < y := by rw [Int32.lt_iff_toInt_lt, q_ti hx, q_ti hy]
theorem q_le {x y : Int} (hx : -2147483648 ≤ x ∧ x < 2147483648) (hy : -2147483648 ≤ y ∧ y < 2147483648) : Int32.ofInt x ≤ Int32.ofInt y ↔ x ≤ y := by rw [Int32.le_iff_toInt_le, q_ti hx, q_ti hy]
theorem q_eq {x y : Int} (hx : -2147483648 ≤ x ∧ x < 2147483648) (hy : -2147483648 ≤ y ∧ y < 2147483648) : Int32.ofInt x = Int32.ofInt y ↔ x = y := by rw [← Int32.toInt_inj, q_ti hx, q_ti hy]
theorem q_llt {x y : Int} (hx : -9223372036854775808 ≤ x ∧ x < 9223372036854775808) (hy : -9223372036854775808 ≤ y ∧ y < 9223372036854775808) : Int64.ofInt x < Int64.ofInt y ↔ x < y := by rw [Int64.lt_iff_toInt_lt, q_tl hx, q_tl hy]
theorem q_leq {x y : Int} (hx : -9223372036854775808 ≤ x ∧ x < 9223372036854775808) (hy : -9223372036854775808 ≤ y ∧ y < 9223372036854775808) : Int64.ofInt x = Int64.ofInt y ↔ x = y := by rw [← Int64.toInt_inj, q_tl hx, q_tl hy]
theorem q_lle {x y : Int} (hx : -9223372036854775808 ≤ x ∧ x < 9223372036854775808) (hy : -9223372036854775808 ≤ y ∧ y < 9223372036854775808) : Int64.ofInt x ≤ Int64.ofInt y ↔ x ≤ y := by rw [Int64.le_iff_toInt_le, q_tl hx, q_tl hy]
theorem q_isub_eq (x y : Int) : Int32.ofInt (x - y) = Int32.ofInt x - Int32.ofInt y := Int32.ofInt_sub x y
theorem q_lsub_eq (x y : Int) : Int64.ofInt (x - y) = Int64.ofInt x - Int64.ofInt y := Int64.ofInt_sub x y
theorem q_i2l_eq {x : Int} (hx : -2147483648 ≤ x ∧ x < 2147483648) : (Int32.ofInt x).toInt64 = Int64.ofInt x := by
  rw [← Int64.toInt_inj, Int32.toInt_toInt64, q_ti hx, q_tl (by omega)]
theorem q_l2i_eq (x : Int) : (Int64.ofInt x).toInt32 = Int32.ofInt x := by
  rw [← Int32.toInt_inj, Int64.toInt_toInt32, Int64.toInt_ofInt, Int32.toInt_ofInt]
  exact Int.bmod_bmod_of_dvd (by decide)
theorem q_i2b_eq {x : Int} (hx : -128 ≤ x ∧ x < 128) : (Int32.ofInt x).toInt8.toInt32 = Int32.ofInt x := by
  rw [← Int32.toInt_inj, Int8.toInt_toInt32, Int32.toInt_toInt8, q_ti (by omega)]
  exact Int.bmod_eq_of_le (by omega) (by omega)
theorem q_i_ne {y : Int} (hy : -2147483648 ≤ y ∧ y < 2147483648) (h0 : 0 < y) : ¬ Int32.ofInt y = 0 := fun h => by
  have := (q_eq (x := y) (y := 0) hy ⟨by decide, by decide⟩).mp h
  omega
theorem q_l_ne {y : Int} (hy : -9223372036854775808 ≤ y ∧ y < 9223372036854775808) (h0 : 0 < y) : ¬ Int64.ofInt y = 0 := fun h => by
  have := (q_leq (x := y) (y := 0) hy ⟨by decide, by decide⟩).mp h
  omega
theorem q_idiv_eq {x y : Int} (hx : -2147483648 ≤ x ∧ x < 2147483648) (hy : -2147483648 ≤ y ∧ y < 2147483648) (h0 : 0 < y) : Int32.ofInt x / Int32.ofInt y = Int32.ofInt (x.tdiv y) := by
  rw [← Int32.toInt_inj, Int32.toInt_div, q_ti hx, q_ti hy, Int32.toInt_ofInt]
theorem q_ldiv_eq {x y : Int} (hx : -9223372036854775808 ≤ x ∧ x < 9223372036854775808) (hy : -9223372036854775808 ≤ y ∧ y < 9223372036854775808) (h0 : 0 < y) : Int64.ofInt x / Int64.ofInt y = Int64.ofInt (x.tdiv y) := by
  rw [← Int64.toInt_inj, Int64.toInt_div, q_tl hx, q_tl hy, Int64.toInt_ofInt]
theorem q_irem_eq {x y : Int} (hx : -2147483648 ≤ x ∧ x < 2147483648) (hy : -2147483648 ≤ y ∧ y < 2147483648) (h0 : 0 < y) : Int32.ofInt x - Int32.ofInt x / Int32.ofInt y * Int32.ofInt y = Int32.ofInt (x.tmod y) := by
  rw [q_idiv_eq hx hy h0, ← Int32.ofInt_mul, ← q_isub_eq, Int.tmod_def, Int.mul_comm y]
theorem q_lrem_eq {x y : Int} (hx : -9223372036854775808 ≤ x ∧ x < 9223372036854775808) (hy : -9223372036854775808 ≤ y ∧ y < 9223372036854775808) (h0 : 0 < y) : Int64.ofInt x - Int64.ofInt x / Int64.ofInt y * Int64.ofInt y = Int64.ofInt (x.tmod y) := by
  rw [q_ldiv_eq hx hy h0, ← Int64.ofInt_mul, ← q_lsub_eq, Int.tmod_def, Int.mul_comm y]
section QT
variable {l : Launch} {K : pw_K} {L : q_L} {own : String} {cc : ByteArray} {nL : Nat} {ret : Option FieldType} {d : Nat} {post : Option Value → q_S → Prop} {pc : Nat} {lv : List (Option Value)} {st : List Value} {σ : q_S}
theorem q_topi {x y : Int} (h : x = y) (kk : q_T l K L own cc nL ret d post pc lv (vi y :: st) σ) : q_T l K L own cc nL ret d post pc lv (vi x :: st) σ := h ▸ kk
theorem q_topl {x y : Int} (h : x = y) (kk : q_T l K L own cc nL ret d post pc lv (vl y :: st) σ) : q_T l K L own cc nL ret d post pc lv (vl x :: st) σ := h ▸ kk
theorem q_sto {σ' : q_S} (h : σ = σ') (kk : q_T l K L own cc nL ret d post pc lv st σ') : q_T l K L own cc nL ret d post pc lv st σ := h ▸ kk
theorem q_lvs {lv' : List (Option Value)} (h : ∀ q ∈ q_lv 0 lv', q ∈ q_lv 0 lv) (kk : q_T l K L own cc nL ret d post pc lv' st σ) : q_T l K L own cc nL ret d post pc lv st σ := by
  intro p e s m args below meth c H locs ls f f0 sz X hr hz hS ha hf hl
  exact kk _ _ _ _ _ _ _ _ _ _ _ _ _ _ X hr hz hS ha hf (q_has hl h)
theorem q_post {post' : Option Value → q_S → Prop} (h : ∀ v σ', post' v σ' → post v σ') (kk : q_T l K L own cc nL ret d post' pc lv st σ) : q_T l K L own cc nL ret d post pc lv st σ := by
  intro p e s m args below meth c H locs ls f f0 sz X hr hz hS ha hf hl
  obtain hk := kk _ e _ _ _ below _ _ _ _ _ _ _ _ X hr hz hS ha hf hl
  intro T hT X2
  obtain ⟨t, a1, o, b1, b2, ⟨v, f', c1, ⟨c2, σ', c3, c4, c5⟩, c6⟩, b3⟩ := hk T hT X2
  exact ⟨t, a1, o, b1, b2, ⟨v, f', c1, ⟨c2, σ', c3, c4, h v σ' c5⟩, c6⟩, b3⟩
theorem q_jn1 {V : Int} {w : Value} (J : Nat) (h : (∀ v : Int, v = V → q_T l K L own cc nL ret d post J lv (vi v :: st) σ) → q_T l K L own cc nL ret d post pc lv (w :: st) σ) (k : q_T l K L own cc nL ret d post J lv (vi V :: st) σ) : q_T l K L own cc nL ret d post pc lv (w :: st) σ := h (fun _ e => e ▸ k)
theorem q_jn2 {V : Int} {w w2 : Value} (J : Nat) (h : (∀ v : Int, v = V → q_T l K L own cc nL ret d post J lv (vi v :: st) σ) → q_T l K L own cc nL ret d post pc lv (w :: w2 :: st) σ) (k : q_T l K L own cc nL ret d post J lv (vi V :: st) σ) : q_T l K L own cc nL ret d post pc lv (w :: w2 :: st) σ := h (fun _ e => e ▸ k)
theorem q_jnl1 {V : Int} {w : Value} (J : Nat) (h : (∀ v : Int, v = V → q_T l K L own cc nL ret d post J lv (vl v :: st) σ) → q_T l K L own cc nL ret d post pc lv (w :: st) σ) (k : q_T l K L own cc nL ret d post J lv (vl V :: st) σ) : q_T l K L own cc nL ret d post pc lv (w :: st) σ := h (fun _ e => e ▸ k)
theorem q_jnl2 {V : Int} {w w2 : Value} (J : Nat) (h : (∀ v : Int, v = V → q_T l K L own cc nL ret d post J lv (vl v :: st) σ) → q_T l K L own cc nL ret d post pc lv (w :: w2 :: st) σ) (k : q_T l K L own cc nL ret d post J lv (vl V :: st) σ) : q_T l K L own cc nL ret d post pc lv (w :: w2 :: st) σ := h (fun _ e => e ▸ k)
theorem q_jnr1 {V : Nat} {w : Value} (J : Nat) (h : (∀ v : Nat, v = V → q_T l K L own cc nL ret d post J lv (.ref v :: st) σ) → q_T l K L own cc nL ret d post pc lv (w :: st) σ) (k : q_T l K L own cc nL ret d post J lv (.ref V :: st) σ) : q_T l K L own cc nL ret d post pc lv (w :: st) σ := h (fun _ e => e ▸ k)
theorem q_jnr2 {V : Nat} {w w2 : Value} (J : Nat) (h : (∀ v : Nat, v = V → q_T l K L own cc nL ret d post J lv (.ref v :: st) σ) → q_T l K L own cc nL ret d post pc lv (w :: w2 :: st) σ) (k : q_T l K L own cc nL ret d post J lv (.ref V :: st) σ) : q_T l K L own cc nL ret d post pc lv (w :: w2 :: st) σ := h (fun _ e => e ▸ k)
theorem q_iconst {n : Int} (hdg : decode cc pc = .ok (.iconst n, 1)) (hv : Int32.ofInt n = Int32.ofInt n) (kk : q_T l K L own cc nL ret d post (pc + 1) lv (vi n :: st) σ) : q_T l K L own cc nL ret d post pc lv st σ := by
  intro p e s m args below meth c H locs ls f f0 sz X hr hz hS ha hf hl
  exact lv_iconst X.1 X.2.1 hdg hv (kk _ _ _ _ _ _ _ _ _ _ _ _ _ _ X hr hz hS ha hf hl)
theorem q_bipush {n : Int} (hdg : decode cc pc = .ok (.bipush n, 2)) (hv : (Int8.ofInt n).toInt32 = Int32.ofInt n) (kk : q_T l K L own cc nL ret d post (pc + 2) lv (vi n :: st) σ) : q_T l K L own cc nL ret d post pc lv st σ := by
  intro p e s m args below meth c H locs ls f f0 sz X hr hz hS ha hf hl
  exact lv_bipush X.1 X.2.1 hdg hv (kk _ _ _ _ _ _ _ _ _ _ _ _ _ _ X hr hz hS ha hf hl)
theorem q_sipush {n : Int} (hdg : decode cc pc = .ok (.sipush n, 3)) (hv : (Int16.ofInt n).toInt32 = Int32.ofInt n) (kk : q_T l K L own cc nL ret d post (pc + 3) lv (vi n :: st) σ) : q_T l K L own cc nL ret d post pc lv st σ := by
  intro p e s m args below meth c H locs ls f f0 sz X hr hz hS ha hf hl
  exact lv_sipush X.1 X.2.1 hdg hv (kk _ _ _ _ _ _ _ _ _ _ _ _ _ _ X hr hz hS ha hf hl)
theorem q_lconst {n : Fin 2} {z : Int} (hdg : decode cc pc = .ok (.lconst n, 1)) (hv : Int64.ofNat (n : Nat) = Int64.ofInt z) (kk : q_T l K L own cc nL ret d post (pc + 1) lv (vl z :: st) σ) : q_T l K L own cc nL ret d post pc lv st σ := by
  intro p e s m args below meth c H locs ls f f0 sz X hr hz hS ha hf hl
  exact lv_lconst X.1 X.2.1 hdg hv (kk _ _ _ _ _ _ _ _ _ _ _ _ _ _ X hr hz hS ha hf hl)
theorem q_ldc {index : Nat} {v : Int32} {z : Int} (hk : Cond.constant own index v ∈ lw_G) (hv : v = Int32.ofInt z) (hdg : decode cc pc = .ok (.ldc index, 2)) (kk : q_T l K L own cc nL ret d post (pc + 2) lv (vi z :: st) σ) : q_T l K L own cc nL ret d post pc lv st σ := by
  intro p e s m args below meth c H locs ls f f0 sz X hr hz hS ha hf hl
  subst hv
  exact pw_ldc X hk hdg (kk _ _ _ _ _ _ _ _ _ _ _ _ _ _ X hr hz hS ha hf hl)
theorem q_ldc2 {index : Nat} {v : Int64} {z : Int} (hk : Cond.constantLong own index v ∈ lw_G) (hv : v = Int64.ofInt z) (hdg : decode cc pc = .ok (.ldc2_w index, 3)) (kk : q_T l K L own cc nL ret d post (pc + 3) lv (vl z :: st) σ) : q_T l K L own cc nL ret d post pc lv st σ := by
  intro p e s m args below meth c H locs ls f f0 sz X hr hz hS ha hf hl
  subst hv
  exact pw_ldc2 X hk hdg (kk _ _ _ _ _ _ _ _ _ _ _ _ _ _ X hr hz hS ha hf hl)
theorem q_iload_n {k : Fin 4} {x : Int} (hdg : decode cc pc = .ok (.iload_n k, 1)) (hk : lv[(k : Nat)]? = some (some (vi x))) (kk : q_T l K L own cc nL ret d post (pc + 1) lv (vi x :: st) σ) : q_T l K L own cc nL ret d post pc lv st σ := by
  intro p e s m args below meth c H locs ls f f0 sz X hr hz hS ha hf hl
  exact lv_iload_n X.1 X.2.1 hdg rfl (q_lv_at hl k hk) (kk _ _ _ _ _ _ _ _ _ _ _ _ _ _ X hr hz hS ha hf hl)
theorem q_iload {i : Nat} {x : Int} (hdg : decode cc pc = .ok (.iload i, 2)) (hk : lv[i]? = some (some (vi x))) (kk : q_T l K L own cc nL ret d post (pc + 2) lv (vi x :: st) σ) : q_T l K L own cc nL ret d post pc lv st σ := by
  intro p e s m args below meth c H locs ls f f0 sz X hr hz hS ha hf hl
  exact lv_iload X.1 X.2.1 hdg (q_lv_at hl i hk) (kk _ _ _ _ _ _ _ _ _ _ _ _ _ _ X hr hz hS ha hf hl)
theorem q_istore_n {k : Fin 4} {i : Nat} {x : Int} {lv' : List (Option Value)} (hdg : decode cc pc = .ok (.istore_n k, 1)) (hi : (k : Nat) = i) (hn : i < nL) (hp : ∀ j, j + 1 = i → ∀ w, lv[j]? = some w → q_nl w = true) (hs : lv.set i (some (vi x)) = lv') (kk : q_T l K L own cc nL ret d post (pc + 1) lv' st σ) : q_T l K L own cc nL ret d post pc lv (vi x :: st) σ := by
  intro p e s m args below meth c H locs ls f f0 sz X hr hz hS ha hf hl
  exact lv_istore_n X.1 X.2.1 hdg hi hl hn rfl (fun ls hl => kk _ _ _ _ _ _ _ _ _ _ _ _ _ _ X hr hz hS ha hf (q_has hl (q_st1 hp hs)))
theorem q_istore {i : Nat} {x : Int} {lv' : List (Option Value)} (hdg : decode cc pc = .ok (.istore i, 2)) (hn : i < nL) (hp : ∀ j, j + 1 = i → ∀ w, lv[j]? = some w → q_nl w = true) (hs : lv.set i (some (vi x)) = lv') (kk : q_T l K L own cc nL ret d post (pc + 2) lv' st σ) : q_T l K L own cc nL ret d post pc lv (vi x :: st) σ := by
  intro p e s m args below meth c H locs ls f f0 sz X hr hz hS ha hf hl
  exact lv_istore X.1 X.2.1 hdg hl hn rfl (fun ls hl => kk _ _ _ _ _ _ _ _ _ _ _ _ _ _ X hr hz hS ha hf (q_has hl (q_st1 hp hs)))
theorem q_lload_n {k : Fin 4} {x : Int} (hdg : decode cc pc = .ok (.lload_n k, 1)) (hk : lv[(k : Nat)]? = some (some (vl x))) (kk : q_T l K L own cc nL ret d post (pc + 1) lv (vl x :: st) σ) : q_T l K L own cc nL ret d post pc lv st σ := by
  intro p e s m args below meth c H locs ls f f0 sz X hr hz hS ha hf hl
  exact lv_lload_n X.1 X.2.1 hdg rfl (q_lv_at hl k hk) (kk _ _ _ _ _ _ _ _ _ _ _ _ _ _ X hr hz hS ha hf hl)
theorem q_lload {i : Nat} {x : Int} (hdg : decode cc pc = .ok (.lload i, 2)) (hk : lv[i]? = some (some (vl x))) (kk : q_T l K L own cc nL ret d post (pc + 2) lv (vl x :: st) σ) : q_T l K L own cc nL ret d post pc lv st σ := by
  intro p e s m args below meth c H locs ls f f0 sz X hr hz hS ha hf hl
  exact lv_lload X.1 X.2.1 hdg (q_lv_at hl i hk) (kk _ _ _ _ _ _ _ _ _ _ _ _ _ _ X hr hz hS ha hf hl)
theorem q_lstore_n {k : Fin 4} {i : Nat} {x : Int} {lv' : List (Option Value)} (hdg : decode cc pc = .ok (.lstore_n k, 1)) (hi : (k : Nat) = i) (hn : i + 1 < nL) (hp : ∀ j, j + 1 = i → ∀ w, lv[j]? = some w → q_nl w = true) (hs : (lv.set i (some (vl x))).set (i + 1) none = lv') (kk : q_T l K L own cc nL ret d post (pc + 1) lv' st σ) : q_T l K L own cc nL ret d post pc lv (vl x :: st) σ := by
  intro p e s m args below meth c H locs ls f f0 sz X hr hz hS ha hf hl
  exact lv_lstore_n X.1 X.2.1 hdg hi hl hn rfl (fun ls hl => kk _ _ _ _ _ _ _ _ _ _ _ _ _ _ X hr hz hS ha hf (q_has hl (q_st2 hp hs)))
theorem q_lstore {i : Nat} {x : Int} {lv' : List (Option Value)} (hdg : decode cc pc = .ok (.lstore i, 2)) (hn : i + 1 < nL) (hp : ∀ j, j + 1 = i → ∀ w, lv[j]? = some w → q_nl w = true) (hs : (lv.set i (some (vl x))).set (i + 1) none = lv') (kk : q_T l K L own cc nL ret d post (pc + 2) lv' st σ) : q_T l K L own cc nL ret d post pc lv (vl x :: st) σ := by
  intro p e s m args below meth c H locs ls f f0 sz X hr hz hS ha hf hl
  exact lv_lstore X.1 X.2.1 hdg hl hn rfl (fun ls hl => kk _ _ _ _ _ _ _ _ _ _ _ _ _ _ X hr hz hS ha hf (q_has hl (q_st2 hp hs)))
theorem q_aload_n {k : Fin 4} {x : Nat} (hdg : decode cc pc = .ok (.aload_n k, 1)) (hk : lv[(k : Nat)]? = some (some (.ref x))) (kk : q_T l K L own cc nL ret d post (pc + 1) lv (.ref x :: st) σ) : q_T l K L own cc nL ret d post pc lv st σ := by
  intro p e s m args below meth c H locs ls f f0 sz X hr hz hS ha hf hl
  exact lv_aload_n X.1 X.2.1 hdg rfl (q_lv_at hl k hk) (kk _ _ _ _ _ _ _ _ _ _ _ _ _ _ X hr hz hS ha hf hl)
theorem q_aload {i : Nat} {x : Nat} (hdg : decode cc pc = .ok (.aload i, 2)) (hk : lv[i]? = some (some (.ref x))) (kk : q_T l K L own cc nL ret d post (pc + 2) lv (.ref x :: st) σ) : q_T l K L own cc nL ret d post pc lv st σ := by
  intro p e s m args below meth c H locs ls f f0 sz X hr hz hS ha hf hl
  exact lv_aload X.1 X.2.1 hdg (q_lv_at hl i hk) (kk _ _ _ _ _ _ _ _ _ _ _ _ _ _ X hr hz hS ha hf hl)
theorem q_astore_n {k : Fin 4} {i : Nat} {x : Nat} {lv' : List (Option Value)} (hdg : decode cc pc = .ok (.astore_n k, 1)) (hi : (k : Nat) = i) (hn : i < nL) (hp : ∀ j, j + 1 = i → ∀ w, lv[j]? = some w → q_nl w = true) (hs : lv.set i (some (.ref x)) = lv') (kk : q_T l K L own cc nL ret d post (pc + 1) lv' st σ) : q_T l K L own cc nL ret d post pc lv (.ref x :: st) σ := by
  intro p e s m args below meth c H locs ls f f0 sz X hr hz hS ha hf hl
  exact lv_astore_n X.1 X.2.1 hdg hi hl hn rfl (fun ls hl => kk _ _ _ _ _ _ _ _ _ _ _ _ _ _ X hr hz hS ha hf (q_has hl (q_st1 hp hs)))
theorem q_astore {i : Nat} {x : Nat} {lv' : List (Option Value)} (hdg : decode cc pc = .ok (.astore i, 2)) (hn : i < nL) (hp : ∀ j, j + 1 = i → ∀ w, lv[j]? = some w → q_nl w = true) (hs : lv.set i (some (.ref x)) = lv') (kk : q_T l K L own cc nL ret d post (pc + 2) lv' st σ) : q_T l K L own cc nL ret d post pc lv (.ref x :: st) σ := by
  intro p e s m args below meth c H locs ls f f0 sz X hr hz hS ha hf hl
  exact lv_astore X.1 X.2.1 hdg hl hn rfl (fun ls hl => kk _ _ _ _ _ _ _ _ _ _ _ _ _ _ X hr hz hS ha hf (q_has hl (q_st1 hp hs)))
theorem q_mk {lv : List (Option Value)} {k i : Nat} {v : Value} (h : (i, v) ∈ q_lv k lv) : ∃ j : Nat, (q_lv k lv)[j]? = some (i, v) := List.getElem?_of_mem h
theorem q_iinc {i : Nat} {n x : Int} {lv' : List (Option Value)} (hdg : decode cc pc = .ok (.iinc i n, 3)) (hk : lv[i]? = some (some (vi x))) (hn : i < nL) (hp : ∀ j, j + 1 = i → ∀ w, lv[j]? = some w → q_nl w = true) (hs : lv.set i (some (vi (x + n))) = lv') (kk : q_T l K L own cc nL ret d post (pc + 3) lv' st σ) : q_T l K L own cc nL ret d post pc lv st σ := by
  intro p e s m args below meth c H locs ls f f0 sz X hr hz hS ha hf hl
  obtain ⟨j, hj⟩ := q_mk (k := 0) ((q_lv_mem lv 0 i (vi x)).mpr ⟨Nat.zero_le i, hk⟩)
  exact lv_iinc X.1 X.2.1 hdg hl hj (v := Int32.ofInt (x + n)) (Int32.ofInt_add x n).symm hn rfl (fun ls hl => kk _ _ _ _ _ _ _ _ _ _ _ _ _ _ X hr hz hS ha hf (q_has hl (q_st1 hp hs)))
theorem q_ist_n_0 {w : Option Value} {r : List (Option Value)} {x : Int} (hdg : decode cc pc = .ok (.istore_n 0, 1)) (hn : 0 < nL) (kk : q_T l K L own cc nL ret d post (pc + 1) (some (vi x) :: r) st σ) : q_T l K L own cc nL ret d post pc (w :: r) (vi x :: st) σ := q_istore_n (i := 0) hdg rfl hn (fun j hj => by omega) rfl kk
theorem q_ist_0 {w : Option Value} {r : List (Option Value)} {x : Int} (hdg : decode cc pc = .ok (.istore 0, 2)) (hn : 0 < nL) (kk : q_T l K L own cc nL ret d post (pc + 2) (some (vi x) :: r) st σ) : q_T l K L own cc nL ret d post pc (w :: r) (vi x :: st) σ := q_istore (i := 0) hdg hn (fun j hj => by omega) rfl kk
theorem q_ast_n_0 {w : Option Value} {r : List (Option Value)} {x : Nat} (hdg : decode cc pc = .ok (.astore_n 0, 1)) (hn : 0 < nL) (kk : q_T l K L own cc nL ret d post (pc + 1) (some (.ref x) :: r) st σ) : q_T l K L own cc nL ret d post pc (w :: r) (.ref x :: st) σ := q_astore_n (i := 0) hdg rfl hn (fun j hj => by omega) rfl kk
theorem q_ast_0 {w : Option Value} {r : List (Option Value)} {x : Nat} (hdg : decode cc pc = .ok (.astore 0, 2)) (hn : 0 < nL) (kk : q_T l K L own cc nL ret d post (pc + 2) (some (.ref x) :: r) st σ) : q_T l K L own cc nL ret d post pc (w :: r) (.ref x :: st) σ := q_astore (i := 0) hdg hn (fun j hj => by omega) rfl kk
theorem q_lst_n_0 {w w2 : Option Value} {r : List (Option Value)} {x : Int} (hdg : decode cc pc = .ok (.lstore_n 0, 1)) (hn : 0 + 1 < nL) (kk : q_T l K L own cc nL ret d post (pc + 1) (some (vl x) :: none :: r) st σ) : q_T l K L own cc nL ret d post pc (w :: w2 :: r) (vl x :: st) σ := q_lstore_n (i := 0) hdg rfl hn (fun j hj => by omega) rfl kk
theorem q_lst_0 {w w2 : Option Value} {r : List (Option Value)} {x : Int} (hdg : decode cc pc = .ok (.lstore 0, 2)) (hn : 0 + 1 < nL) (kk : q_T l K L own cc nL ret d post (pc + 2) (some (vl x) :: none :: r) st σ) : q_T l K L own cc nL ret d post pc (w :: w2 :: r) (vl x :: st) σ := q_lstore (i := 0) hdg hn (fun j hj => by omega) rfl kk
theorem q_iinc_0 {r : List (Option Value)} {x n : Int} (hdg : decode cc pc = .ok (.iinc 0 n, 3)) (hn : 0 < nL) (kk : q_T l K L own cc nL ret d post (pc + 3) (some (vi (x + n)) :: r) st σ) : q_T l K L own cc nL ret d post pc (some (vi x) :: r) st σ := q_iinc (i := 0) hdg rfl hn (fun j hj => by omega) rfl kk
theorem q_drop_0 {w : Option Value} {r : List (Option Value)} (kk : q_T l K L own cc nL ret d post pc (none :: r) st σ) : q_T l K L own cc nL ret d post pc (w :: r) st σ := q_lvs (fun q hq => by obtain ⟨j, v⟩ := q; have h := ((q_lv_mem _ 0 j v).mp hq).2; refine (q_lv_mem _ 0 j v).mpr ⟨Nat.zero_le _, ?_⟩; rcases j with _ | j <;> simp_all) kk
theorem q_ist_n_1 {a0 w : Option Value} {r : List (Option Value)} {x : Int} (hdg : decode cc pc = .ok (.istore_n 1, 1)) (hn : 1 < nL) (ho : q_nl a0 = true) (kk : q_T l K L own cc nL ret d post (pc + 1) (a0 :: some (vi x) :: r) st σ) : q_T l K L own cc nL ret d post pc (a0 :: w :: r) (vi x :: st) σ := q_istore_n (i := 1) hdg rfl hn (fun j hj w hw => by obtain rfl : j = 0 := (by omega); cases hw; exact ho) rfl kk
theorem q_ist_1 {a0 w : Option Value} {r : List (Option Value)} {x : Int} (hdg : decode cc pc = .ok (.istore 1, 2)) (hn : 1 < nL) (ho : q_nl a0 = true) (kk : q_T l K L own cc nL ret d post (pc + 2) (a0 :: some (vi x) :: r) st σ) : q_T l K L own cc nL ret d post pc (a0 :: w :: r) (vi x :: st) σ := q_istore (i := 1) hdg hn (fun j hj w hw => by obtain rfl : j = 0 := (by omega); cases hw; exact ho) rfl kk
theorem q_ast_n_1 {a0 w : Option Value} {r : List (Option Value)} {x : Nat} (hdg : decode cc pc = .ok (.astore_n 1, 1)) (hn : 1 < nL) (ho : q_nl a0 = true) (kk : q_T l K L own cc nL ret d post (pc + 1) (a0 :: some (.ref x) :: r) st σ) : q_T l K L own cc nL ret d post pc (a0 :: w :: r) (.ref x :: st) σ := q_astore_n (i := 1) hdg rfl hn (fun j hj w hw => by obtain rfl : j = 0 := (by omega); cases hw; exact ho) rfl kk
theorem q_ast_1 {a0 w : Option Value} {r : List (Option Value)} {x : Nat} (hdg : decode cc pc = .ok (.astore 1, 2)) (hn : 1 < nL) (ho : q_nl a0 = true) (kk : q_T l K L own cc nL ret d post (pc + 2) (a0 :: some (.ref x) :: r) st σ) : q_T l K L own cc nL ret d post pc (a0 :: w :: r) (.ref x :: st) σ := q_astore (i := 1) hdg hn (fun j hj w hw => by obtain rfl : j = 0 := (by omega); cases hw; exact ho) rfl kk
theorem q_lst_n_1 {a0 w w2 : Option Value} {r : List (Option Value)} {x : Int} (hdg : decode cc pc = .ok (.lstore_n 1, 1)) (hn : 1 + 1 < nL) (ho : q_nl a0 = true) (kk : q_T l K L own cc nL ret d post (pc + 1) (a0 :: some (vl x) :: none :: r) st σ) : q_T l K L own cc nL ret d post pc (a0 :: w :: w2 :: r) (vl x :: st) σ := q_lstore_n (i := 1) hdg rfl hn (fun j hj w hw => by obtain rfl : j = 0 := (by omega); cases hw; exact ho) rfl kk
theorem q_lst_1 {a0 w w2 : Option Value} {r : List (Option Value)} {x : Int} (hdg : decode cc pc = .ok (.lstore 1, 2)) (hn : 1 + 1 < nL) (ho : q_nl a0 = true) (kk : q_T l K L own cc nL ret d post (pc + 2) (a0 :: some (vl x) :: none :: r) st σ) : q_T l K L own cc nL ret d post pc (a0 :: w :: w2 :: r) (vl x :: st) σ := q_lstore (i := 1) hdg hn (fun j hj w hw => by obtain rfl : j = 0 := (by omega); cases hw; exact ho) rfl kk
theorem q_iinc_1 {a0 : Option Value} {r : List (Option Value)} {x n : Int} (hdg : decode cc pc = .ok (.iinc 1 n, 3)) (hn : 1 < nL) (ho : q_nl a0 = true) (kk : q_T l K L own cc nL ret d post (pc + 3) (a0 :: some (vi (x + n)) :: r) st σ) : q_T l K L own cc nL ret d post pc (a0 :: some (vi x) :: r) st σ := q_iinc (i := 1) hdg rfl hn (fun j hj w hw => by obtain rfl : j = 0 := (by omega); cases hw; exact ho) rfl kk
theorem q_drop_1 {a0 w : Option Value} {r : List (Option Value)} (kk : q_T l K L own cc nL ret d post pc (a0 :: none :: r) st σ) : q_T l K L own cc nL ret d post pc (a0 :: w :: r) st σ := q_lvs (fun q hq => by obtain ⟨j, v⟩ := q; have h := ((q_lv_mem _ 0 j v).mp hq).2; refine (q_lv_mem _ 0 j v).mpr ⟨Nat.zero_le _, ?_⟩; rcases j with _ | _ | j <;> simp_all) kk
theorem q_ist_n_2 {a0 a1 w : Option Value} {r : List (Option Value)} {x : Int} (hdg : decode cc pc = .ok (.istore_n 2, 1)) (hn : 2 < nL) (ho : q_nl a1 = true) (kk : q_T l K L own cc nL ret d post (pc + 1) (a0 :: a1 :: some (vi x) :: r) st σ) : q_T l K L own cc nL ret d post pc (a0 :: a1 :: w :: r) (vi x :: st) σ := q_istore_n (i := 2) hdg rfl hn (fun j hj w hw => by obtain rfl : j = 1 := (by omega); cases hw; exact ho) rfl kk
theorem q_ist_2 {a0 a1 w : Option Value} {r : List (Option Value)} {x : Int} (hdg : decode cc pc = .ok (.istore 2, 2)) (hn : 2 < nL) (ho : q_nl a1 = true) (kk : q_T l K L own cc nL ret d post (pc + 2) (a0 :: a1 :: some (vi x) :: r) st σ) : q_T l K L own cc nL ret d post pc (a0 :: a1 :: w :: r) (vi x :: st) σ := q_istore (i := 2) hdg hn (fun j hj w hw => by obtain rfl : j = 1 := (by omega); cases hw; exact ho) rfl kk
theorem q_ast_n_2 {a0 a1 w : Option Value} {r : List (Option Value)} {x : Nat} (hdg : decode cc pc = .ok (.astore_n 2, 1)) (hn : 2 < nL) (ho : q_nl a1 = true) (kk : q_T l K L own cc nL ret d post (pc + 1) (a0 :: a1 :: some (.ref x) :: r) st σ) : q_T l K L own cc nL ret d post pc (a0 :: a1 :: w :: r) (.ref x :: st) σ := q_astore_n (i := 2) hdg rfl hn (fun j hj w hw => by obtain rfl : j = 1 := (by omega); cases hw; exact ho) rfl kk
theorem q_ast_2 {a0 a1 w : Option Value} {r : List (Option Value)} {x : Nat} (hdg : decode cc pc = .ok (.astore 2, 2)) (hn : 2 < nL) (ho : q_nl a1 = true) (kk : q_T l K L own cc nL ret d post (pc + 2) (a0 :: a1 :: some (.ref x) :: r) st σ) : q_T l K L own cc nL ret d post pc (a0 :: a1 :: w :: r) (.ref x :: st) σ := q_astore (i := 2) hdg hn (fun j hj w hw => by obtain rfl : j = 1 := (by omega); cases hw; exact ho) rfl kk
theorem q_lst_n_2 {a0 a1 w w2 : Option Value} {r : List (Option Value)} {x : Int} (hdg : decode cc pc = .ok (.lstore_n 2, 1)) (hn : 2 + 1 < nL) (ho : q_nl a1 = true) (kk : q_T l K L own cc nL ret d post (pc + 1) (a0 :: a1 :: some (vl x) :: none :: r) st σ) : q_T l K L own cc nL ret d post pc (a0 :: a1 :: w :: w2 :: r) (vl x :: st) σ := q_lstore_n (i := 2) hdg rfl hn (fun j hj w hw => by obtain rfl : j = 1 := (by omega); cases hw; exact ho) rfl kk
theorem q_lst_2 {a0 a1 w w2 : Option Value} {r : List (Option Value)} {x : Int} (hdg : decode cc pc = .ok (.lstore 2, 2)) (hn : 2 + 1 < nL) (ho : q_nl a1 = true) (kk : q_T l K L own cc nL ret d post (pc + 2) (a0 :: a1 :: some (vl x) :: none :: r) st σ) : q_T l K L own cc nL ret d post pc (a0 :: a1 :: w :: w2 :: r) (vl x :: st) σ := q_lstore (i := 2) hdg hn (fun j hj w hw => by obtain rfl : j = 1 := (by omega); cases hw; exact ho) rfl kk
theorem q_iinc_2 {a0 a1 : Option Value} {r : List (Option Value)} {x n : Int} (hdg : decode cc pc = .ok (.iinc 2 n, 3)) (hn : 2 < nL) (ho : q_nl a1 = true) (kk : q_T l K L own cc nL ret d post (pc + 3) (a0 :: a1 :: some (vi (x + n)) :: r) st σ) : q_T l K L own cc nL ret d post pc (a0 :: a1 :: some (vi x) :: r) st σ := q_iinc (i := 2) hdg rfl hn (fun j hj w hw => by obtain rfl : j = 1 := (by omega); cases hw; exact ho) rfl kk
theorem q_drop_2 {a0 a1 w : Option Value} {r : List (Option Value)} (kk : q_T l K L own cc nL ret d post pc (a0 :: a1 :: none :: r) st σ) : q_T l K L own cc nL ret d post pc (a0 :: a1 :: w :: r) st σ := q_lvs (fun q hq => by obtain ⟨j, v⟩ := q; have h := ((q_lv_mem _ 0 j v).mp hq).2; refine (q_lv_mem _ 0 j v).mpr ⟨Nat.zero_le _, ?_⟩; rcases j with _ | _ | _ | j <;> simp_all) kk
theorem q_ist_n_3 {a0 a1 a2 w : Option Value} {r : List (Option Value)} {x : Int} (hdg : decode cc pc = .ok (.istore_n 3, 1)) (hn : 3 < nL) (ho : q_nl a2 = true) (kk : q_T l K L own cc nL ret d post (pc + 1) (a0 :: a1 :: a2 :: some (vi x) :: r) st σ) : q_T l K L own cc nL ret d post pc (a0 :: a1 :: a2 :: w :: r) (vi x :: st) σ := q_istore_n (i := 3) hdg rfl hn (fun j hj w hw => by obtain rfl : j = 2 := (by omega); cases hw; exact ho) rfl kk
theorem q_ist_3 {a0 a1 a2 w : Option Value} {r : List (Option Value)} {x : Int} (hdg : decode cc pc = .ok (.istore 3, 2)) (hn : 3 < nL) (ho : q_nl a2 = true) (kk : q_T l K L own cc nL ret d post (pc + 2) (a0 :: a1 :: a2 :: some (vi x) :: r) st σ) : q_T l K L own cc nL ret d post pc (a0 :: a1 :: a2 :: w :: r) (vi x :: st) σ := q_istore (i := 3) hdg hn (fun j hj w hw => by obtain rfl : j = 2 := (by omega); cases hw; exact ho) rfl kk
theorem q_ast_n_3 {a0 a1 a2 w : Option Value} {r : List (Option Value)} {x : Nat} (hdg : decode cc pc = .ok (.astore_n 3, 1)) (hn : 3 < nL) (ho : q_nl a2 = true) (kk : q_T l K L own cc nL ret d post (pc + 1) (a0 :: a1 :: a2 :: some (.ref x) :: r) st σ) : q_T l K L own cc nL ret d post pc (a0 :: a1 :: a2 :: w :: r) (.ref x :: st) σ := q_astore_n (i := 3) hdg rfl hn (fun j hj w hw => by obtain rfl : j = 2 := (by omega); cases hw; exact ho) rfl kk
theorem q_ast_3 {a0 a1 a2 w : Option Value} {r : List (Option Value)} {x : Nat} (hdg : decode cc pc = .ok (.astore 3, 2)) (hn : 3 < nL) (ho : q_nl a2 = true) (kk : q_T l K L own cc nL ret d post (pc + 2) (a0 :: a1 :: a2 :: some (.ref x) :: r) st σ) : q_T l K L own cc nL ret d post pc (a0 :: a1 :: a2 :: w :: r) (.ref x :: st) σ := q_astore (i := 3) hdg hn (fun j hj w hw => by obtain rfl : j = 2 := (by omega); cases hw; exact ho) rfl kk
theorem q_lst_n_3 {a0 a1 a2 w w2 : Option Value} {r : List (Option Value)} {x : Int} (hdg : decode cc pc = .ok (.lstore_n 3, 1)) (hn : 3 + 1 < nL) (ho : q_nl a2 = true) (kk : q_T l K L own cc nL ret d post (pc + 1) (a0 :: a1 :: a2 :: some (vl x) :: none :: r) st σ) : q_T l K L own cc nL ret d post pc (a0 :: a1 :: a2 :: w :: w2 :: r) (vl x :: st) σ := q_lstore_n (i := 3) hdg rfl hn (fun j hj w hw => by obtain rfl : j = 2 := (by omega); cases hw; exact ho) rfl kk
theorem q_lst_3 {a0 a1 a2 w w2 : Option Value} {r : List (Option Value)} {x : Int} (hdg : decode cc pc = .ok (.lstore 3, 2)) (hn : 3 + 1 < nL) (ho : q_nl a2 = true) (kk : q_T l K L own cc nL ret d post (pc + 2) (a0 :: a1 :: a2 :: some (vl x) :: none :: r) st σ) : q_T l K L own cc nL ret d post pc (a0 :: a1 :: a2 :: w :: w2 :: r) (vl x :: st) σ := q_lstore (i := 3) hdg hn (fun j hj w hw => by obtain rfl : j = 2 := (by omega); cases hw; exact ho) rfl kk
theorem q_iinc_3 {a0 a1 a2 : Option Value} {r : List (Option Value)} {x n : Int} (hdg : decode cc pc = .ok (.iinc 3 n, 3)) (hn : 3 < nL) (ho : q_nl a2 = true) (kk : q_T l K L own cc nL ret d post (pc + 3) (a0 :: a1 :: a2 :: some (vi (x + n)) :: r) st σ) : q_T l K L own cc nL ret d post pc (a0 :: a1 :: a2 :: some (vi x) :: r) st σ := q_iinc (i := 3) hdg rfl hn (fun j hj w hw => by obtain rfl : j = 2 := (by omega); cases hw; exact ho) rfl kk
theorem q_drop_3 {a0 a1 a2 w : Option Value} {r : List (Option Value)} (kk : q_T l K L own cc nL ret d post pc (a0 :: a1 :: a2 :: none :: r) st σ) : q_T l K L own cc nL ret d post pc (a0 :: a1 :: a2 :: w :: r) st σ := q_lvs (fun q hq => by obtain ⟨j, v⟩ := q; have h := ((q_lv_mem _ 0 j v).mp hq).2; refine (q_lv_mem _ 0 j v).mpr ⟨Nat.zero_le _, ?_⟩; rcases j with _ | _ | _ | _ | j <;> simp_all) kk
theorem q_ist_4 {a0 a1 a2 a3 w : Option Value} {r : List (Option Value)} {x : Int} (hdg : decode cc pc = .ok (.istore 4, 2)) (hn : 4 < nL) (ho : q_nl a3 = true) (kk : q_T l K L own cc nL ret d post (pc + 2) (a0 :: a1 :: a2 :: a3 :: some (vi x) :: r) st σ) : q_T l K L own cc nL ret d post pc (a0 :: a1 :: a2 :: a3 :: w :: r) (vi x :: st) σ := q_istore (i := 4) hdg hn (fun j hj w hw => by obtain rfl : j = 3 := (by omega); cases hw; exact ho) rfl kk
theorem q_ast_4 {a0 a1 a2 a3 w : Option Value} {r : List (Option Value)} {x : Nat} (hdg : decode cc pc = .ok (.astore 4, 2)) (hn : 4 < nL) (ho : q_nl a3 = true) (kk : q_T l K L own cc nL ret d post (pc + 2) (a0 :: a1 :: a2 :: a3 :: some (.ref x) :: r) st σ) : q_T l K L own cc nL ret d post pc (a0 :: a1 :: a2 :: a3 :: w :: r) (.ref x :: st) σ := q_astore (i := 4) hdg hn (fun j hj w hw => by obtain rfl : j = 3 := (by omega); cases hw; exact ho) rfl kk
theorem q_lst_4 {a0 a1 a2 a3 w w2 : Option Value} {r : List (Option Value)} {x : Int} (hdg : decode cc pc = .ok (.lstore 4, 2)) (hn : 4 + 1 < nL) (ho : q_nl a3 = true) (kk : q_T l K L own cc nL ret d post (pc + 2) (a0 :: a1 :: a2 :: a3 :: some (vl x) :: none :: r) st σ) : q_T l K L own cc nL ret d post pc (a0 :: a1 :: a2 :: a3 :: w :: w2 :: r) (vl x :: st) σ := q_lstore (i := 4) hdg hn (fun j hj w hw => by obtain rfl : j = 3 := (by omega); cases hw; exact ho) rfl kk
theorem q_iinc_4 {a0 a1 a2 a3 : Option Value} {r : List (Option Value)} {x n : Int} (hdg : decode cc pc = .ok (.iinc 4 n, 3)) (hn : 4 < nL) (ho : q_nl a3 = true) (kk : q_T l K L own cc nL ret d post (pc + 3) (a0 :: a1 :: a2 :: a3 :: some (vi (x + n)) :: r) st σ) : q_T l K L own cc nL ret d post pc (a0 :: a1 :: a2 :: a3 :: some (vi x) :: r) st σ := q_iinc (i := 4) hdg rfl hn (fun j hj w hw => by obtain rfl : j = 3 := (by omega); cases hw; exact ho) rfl kk
theorem q_drop_4 {a0 a1 a2 a3 w : Option Value} {r : List (Option Value)} (kk : q_T l K L own cc nL ret d post pc (a0 :: a1 :: a2 :: a3 :: none :: r) st σ) : q_T l K L own cc nL ret d post pc (a0 :: a1 :: a2 :: a3 :: w :: r) st σ := q_lvs (fun q hq => by obtain ⟨j, v⟩ := q; have h := ((q_lv_mem _ 0 j v).mp hq).2; refine (q_lv_mem _ 0 j v).mpr ⟨Nat.zero_le _, ?_⟩; rcases j with _ | _ | _ | _ | _ | j <;> simp_all) kk
theorem q_ist_5 {a0 a1 a2 a3 a4 w : Option Value} {r : List (Option Value)} {x : Int} (hdg : decode cc pc = .ok (.istore 5, 2)) (hn : 5 < nL) (ho : q_nl a4 = true) (kk : q_T l K L own cc nL ret d post (pc + 2) (a0 :: a1 :: a2 :: a3 :: a4 :: some (vi x) :: r) st σ) : q_T l K L own cc nL ret d post pc (a0 :: a1 :: a2 :: a3 :: a4 :: w :: r) (vi x :: st) σ := q_istore (i := 5) hdg hn (fun j hj w hw => by obtain rfl : j = 4 := (by omega); cases hw; exact ho) rfl kk
theorem q_ast_5 {a0 a1 a2 a3 a4 w : Option Value} {r : List (Option Value)} {x : Nat} (hdg : decode cc pc = .ok (.astore 5, 2)) (hn : 5 < nL) (ho : q_nl a4 = true) (kk : q_T l K L own cc nL ret d post (pc + 2) (a0 :: a1 :: a2 :: a3 :: a4 :: some (.ref x) :: r) st σ) : q_T l K L own cc nL ret d post pc (a0 :: a1 :: a2 :: a3 :: a4 :: w :: r) (.ref x :: st) σ := q_astore (i := 5) hdg hn (fun j hj w hw => by obtain rfl : j = 4 := (by omega); cases hw; exact ho) rfl kk
theorem q_lst_5 {a0 a1 a2 a3 a4 w w2 : Option Value} {r : List (Option Value)} {x : Int} (hdg : decode cc pc = .ok (.lstore 5, 2)) (hn : 5 + 1 < nL) (ho : q_nl a4 = true) (kk : q_T l K L own cc nL ret d post (pc + 2) (a0 :: a1 :: a2 :: a3 :: a4 :: some (vl x) :: none :: r) st σ) : q_T l K L own cc nL ret d post pc (a0 :: a1 :: a2 :: a3 :: a4 :: w :: w2 :: r) (vl x :: st) σ := q_lstore (i := 5) hdg hn (fun j hj w hw => by obtain rfl : j = 4 := (by omega); cases hw; exact ho) rfl kk
theorem q_iinc_5 {a0 a1 a2 a3 a4 : Option Value} {r : List (Option Value)} {x n : Int} (hdg : decode cc pc = .ok (.iinc 5 n, 3)) (hn : 5 < nL) (ho : q_nl a4 = true) (kk : q_T l K L own cc nL ret d post (pc + 3) (a0 :: a1 :: a2 :: a3 :: a4 :: some (vi (x + n)) :: r) st σ) : q_T l K L own cc nL ret d post pc (a0 :: a1 :: a2 :: a3 :: a4 :: some (vi x) :: r) st σ := q_iinc (i := 5) hdg rfl hn (fun j hj w hw => by obtain rfl : j = 4 := (by omega); cases hw; exact ho) rfl kk
theorem q_drop_5 {a0 a1 a2 a3 a4 w : Option Value} {r : List (Option Value)} (kk : q_T l K L own cc nL ret d post pc (a0 :: a1 :: a2 :: a3 :: a4 :: none :: r) st σ) : q_T l K L own cc nL ret d post pc (a0 :: a1 :: a2 :: a3 :: a4 :: w :: r) st σ := q_lvs (fun q hq => by obtain ⟨j, v⟩ := q; have h := ((q_lv_mem _ 0 j v).mp hq).2; refine (q_lv_mem _ 0 j v).mpr ⟨Nat.zero_le _, ?_⟩; rcases j with _ | _ | _ | _ | _ | _ | j <;> simp_all) kk
theorem q_ist_6 {a0 a1 a2 a3 a4 a5 w : Option Value} {r : List (Option Value)} {x : Int} (hdg : decode cc pc = .ok (.istore 6, 2)) (hn : 6 < nL) (ho : q_nl a5 = true) (kk : q_T l K L own cc nL ret d post (pc + 2) (a0 :: a1 :: a2 :: a3 :: a4 :: a5 :: some (vi x) :: r) st σ) : q_T l K L own cc nL ret d post pc (a0 :: a1 :: a2 :: a3 :: a4 :: a5 :: w :: r) (vi x :: st) σ := q_istore (i := 6) hdg hn (fun j hj w hw => by obtain rfl : j = 5 := (by omega); cases hw; exact ho) rfl kk
theorem q_ast_6 {a0 a1 a2 a3 a4 a5 w : Option Value} {r : List (Option Value)} {x : Nat} (hdg : decode cc pc = .ok (.astore 6, 2)) (hn : 6 < nL) (ho : q_nl a5 = true) (kk : q_T l K L own cc nL ret d post (pc + 2) (a0 :: a1 :: a2 :: a3 :: a4 :: a5 :: some (.ref x) :: r) st σ) : q_T l K L own cc nL ret d post pc (a0 :: a1 :: a2 :: a3 :: a4 :: a5 :: w :: r) (.ref x :: st) σ := q_astore (i := 6) hdg hn (fun j hj w hw => by obtain rfl : j = 5 := (by omega); cases hw; exact ho) rfl kk
theorem q_lst_6 {a0 a1 a2 a3 a4 a5 w w2 : Option Value} {r : List (Option Value)} {x : Int} (hdg : decode cc pc = .ok (.lstore 6, 2)) (hn : 6 + 1 < nL) (ho : q_nl a5 = true) (kk : q_T l K L own cc nL ret d post (pc + 2) (a0 :: a1 :: a2 :: a3 :: a4 :: a5 :: some (vl x) :: none :: r) st σ) : q_T l K L own cc nL ret d post pc (a0 :: a1 :: a2 :: a3 :: a4 :: a5 :: w :: w2 :: r) (vl x :: st) σ := q_lstore (i := 6) hdg hn (fun j hj w hw => by obtain rfl : j = 5 := (by omega); cases hw; exact ho) rfl kk
theorem q_iinc_6 {a0 a1 a2 a3 a4 a5 : Option Value} {r : List (Option Value)} {x n : Int} (hdg : decode cc pc = .ok (.iinc 6 n, 3)) (hn : 6 < nL) (ho : q_nl a5 = true) (kk : q_T l K L own cc nL ret d post (pc + 3) (a0 :: a1 :: a2 :: a3 :: a4 :: a5 :: some (vi (x + n)) :: r) st σ) : q_T l K L own cc nL ret d post pc (a0 :: a1 :: a2 :: a3 :: a4 :: a5 :: some (vi x) :: r) st σ := q_iinc (i := 6) hdg rfl hn (fun j hj w hw => by obtain rfl : j = 5 := (by omega); cases hw; exact ho) rfl kk
theorem q_drop_6 {a0 a1 a2 a3 a4 a5 w : Option Value} {r : List (Option Value)} (kk : q_T l K L own cc nL ret d post pc (a0 :: a1 :: a2 :: a3 :: a4 :: a5 :: none :: r) st σ) : q_T l K L own cc nL ret d post pc (a0 :: a1 :: a2 :: a3 :: a4 :: a5 :: w :: r) st σ := q_lvs (fun q hq => by obtain ⟨j, v⟩ := q; have h := ((q_lv_mem _ 0 j v).mp hq).2; refine (q_lv_mem _ 0 j v).mpr ⟨Nat.zero_le _, ?_⟩; rcases j with _ | _ | _ | _ | _ | _ | _ | j <;> simp_all) kk
theorem q_ist_7 {a0 a1 a2 a3 a4 a5 a6 w : Option Value} {r : List (Option Value)} {x : Int} (hdg : decode cc pc = .ok (.istore 7, 2)) (hn : 7 < nL) (ho : q_nl a6 = true) (kk : q_T l K L own cc nL ret d post (pc + 2) (a0 :: a1 :: a2 :: a3 :: a4 :: a5 :: a6 :: some (vi x) :: r) st σ) : q_T l K L own cc nL ret d post pc (a0 :: a1 :: a2 :: a3 :: a4 :: a5 :: a6 :: w :: r) (vi x :: st) σ := q_istore (i := 7) hdg hn (fun j hj w hw => by obtain rfl : j = 6 := (by omega); cases hw; exact ho) rfl kk
theorem q_ast_7 {a0 a1 a2 a3 a4 a5 a6 w : Option Value} {r : List (Option Value)} {x : Nat} (hdg : decode cc pc = .ok (.astore 7, 2)) (hn : 7 < nL) (ho : q_nl a6 = true) (kk : q_T l K L own cc nL ret d post (pc + 2) (a0 :: a1 :: a2 :: a3 :: a4 :: a5 :: a6 :: some (.ref x) :: r) st σ) : q_T l K L own cc nL ret d post pc (a0 :: a1 :: a2 :: a3 :: a4 :: a5 :: a6 :: w :: r) (.ref x :: st) σ := q_astore (i := 7) hdg hn (fun j hj w hw => by obtain rfl : j = 6 := (by omega); cases hw; exact ho) rfl kk
theorem q_lst_7 {a0 a1 a2 a3 a4 a5 a6 w w2 : Option Value} {r : List (Option Value)} {x : Int} (hdg : decode cc pc = .ok (.lstore 7, 2)) (hn : 7 + 1 < nL) (ho : q_nl a6 = true) (kk : q_T l K L own cc nL ret d post (pc + 2) (a0 :: a1 :: a2 :: a3 :: a4 :: a5 :: a6 :: some (vl x) :: none :: r) st σ) : q_T l K L own cc nL ret d post pc (a0 :: a1 :: a2 :: a3 :: a4 :: a5 :: a6 :: w :: w2 :: r) (vl x :: st) σ := q_lstore (i := 7) hdg hn (fun j hj w hw => by obtain rfl : j = 6 := (by omega); cases hw; exact ho) rfl kk
theorem q_iinc_7 {a0 a1 a2 a3 a4 a5 a6 : Option Value} {r : List (Option Value)} {x n : Int} (hdg : decode cc pc = .ok (.iinc 7 n, 3)) (hn : 7 < nL) (ho : q_nl a6 = true) (kk : q_T l K L own cc nL ret d post (pc + 3) (a0 :: a1 :: a2 :: a3 :: a4 :: a5 :: a6 :: some (vi (x + n)) :: r) st σ) : q_T l K L own cc nL ret d post pc (a0 :: a1 :: a2 :: a3 :: a4 :: a5 :: a6 :: some (vi x) :: r) st σ := q_iinc (i := 7) hdg rfl hn (fun j hj w hw => by obtain rfl : j = 6 := (by omega); cases hw; exact ho) rfl kk
theorem q_drop_7 {a0 a1 a2 a3 a4 a5 a6 w : Option Value} {r : List (Option Value)} (kk : q_T l K L own cc nL ret d post pc (a0 :: a1 :: a2 :: a3 :: a4 :: a5 :: a6 :: none :: r) st σ) : q_T l K L own cc nL ret d post pc (a0 :: a1 :: a2 :: a3 :: a4 :: a5 :: a6 :: w :: r) st σ := q_lvs (fun q hq => by obtain ⟨j, v⟩ := q; have h := ((q_lv_mem _ 0 j v).mp hq).2; refine (q_lv_mem _ 0 j v).mpr ⟨Nat.zero_le _, ?_⟩; rcases j with _ | _ | _ | _ | _ | _ | _ | _ | j <;> simp_all) kk
theorem q_ist_8 {a0 a1 a2 a3 a4 a5 a6 a7 w : Option Value} {r : List (Option Value)} {x : Int} (hdg : decode cc pc = .ok (.istore 8, 2)) (hn : 8 < nL) (ho : q_nl a7 = true) (kk : q_T l K L own cc nL ret d post (pc + 2) (a0 :: a1 :: a2 :: a3 :: a4 :: a5 :: a6 :: a7 :: some (vi x) :: r) st σ) : q_T l K L own cc nL ret d post pc (a0 :: a1 :: a2 :: a3 :: a4 :: a5 :: a6 :: a7 :: w :: r) (vi x :: st) σ := q_istore (i := 8) hdg hn (fun j hj w hw => by obtain rfl : j = 7 := (by omega); cases hw; exact ho) rfl kk
theorem q_ast_8 {a0 a1 a2 a3 a4 a5 a6 a7 w : Option Value} {r : List (Option Value)} {x : Nat} (hdg : decode cc pc = .ok (.astore 8, 2)) (hn : 8 < nL) (ho : q_nl a7 = true) (kk : q_T l K L own cc nL ret d post (pc + 2) (a0 :: a1 :: a2 :: a3 :: a4 :: a5 :: a6 :: a7 :: some (.ref x) :: r) st σ) : q_T l K L own cc nL ret d post pc (a0 :: a1 :: a2 :: a3 :: a4 :: a5 :: a6 :: a7 :: w :: r) (.ref x :: st) σ := q_astore (i := 8) hdg hn (fun j hj w hw => by obtain rfl : j = 7 := (by omega); cases hw; exact ho) rfl kk
theorem q_lst_8 {a0 a1 a2 a3 a4 a5 a6 a7 w w2 : Option Value} {r : List (Option Value)} {x : Int} (hdg : decode cc pc = .ok (.lstore 8, 2)) (hn : 8 + 1 < nL) (ho : q_nl a7 = true) (kk : q_T l K L own cc nL ret d post (pc + 2) (a0 :: a1 :: a2 :: a3 :: a4 :: a5 :: a6 :: a7 :: some (vl x) :: none :: r) st σ) : q_T l K L own cc nL ret d post pc (a0 :: a1 :: a2 :: a3 :: a4 :: a5 :: a6 :: a7 :: w :: w2 :: r) (vl x :: st) σ := q_lstore (i := 8) hdg hn (fun j hj w hw => by obtain rfl : j = 7 := (by omega); cases hw; exact ho) rfl kk
theorem q_iinc_8 {a0 a1 a2 a3 a4 a5 a6 a7 : Option Value} {r : List (Option Value)} {x n : Int} (hdg : decode cc pc = .ok (.iinc 8 n, 3)) (hn : 8 < nL) (ho : q_nl a7 = true) (kk : q_T l K L own cc nL ret d post (pc + 3) (a0 :: a1 :: a2 :: a3 :: a4 :: a5 :: a6 :: a7 :: some (vi (x + n)) :: r) st σ) : q_T l K L own cc nL ret d post pc (a0 :: a1 :: a2 :: a3 :: a4 :: a5 :: a6 :: a7 :: some (vi x) :: r) st σ := q_iinc (i := 8) hdg rfl hn (fun j hj w hw => by obtain rfl : j = 7 := (by omega); cases hw; exact ho) rfl kk
theorem q_drop_8 {a0 a1 a2 a3 a4 a5 a6 a7 w : Option Value} {r : List (Option Value)} (kk : q_T l K L own cc nL ret d post pc (a0 :: a1 :: a2 :: a3 :: a4 :: a5 :: a6 :: a7 :: none :: r) st σ) : q_T l K L own cc nL ret d post pc (a0 :: a1 :: a2 :: a3 :: a4 :: a5 :: a6 :: a7 :: w :: r) st σ := q_lvs (fun q hq => by obtain ⟨j, v⟩ := q; have h := ((q_lv_mem _ 0 j v).mp hq).2; refine (q_lv_mem _ 0 j v).mpr ⟨Nat.zero_le _, ?_⟩; rcases j with _ | _ | _ | _ | _ | _ | _ | _ | _ | j <;> simp_all) kk
theorem q_ist_9 {a0 a1 a2 a3 a4 a5 a6 a7 a8 w : Option Value} {r : List (Option Value)} {x : Int} (hdg : decode cc pc = .ok (.istore 9, 2)) (hn : 9 < nL) (ho : q_nl a8 = true) (kk : q_T l K L own cc nL ret d post (pc + 2) (a0 :: a1 :: a2 :: a3 :: a4 :: a5 :: a6 :: a7 :: a8 :: some (vi x) :: r) st σ) : q_T l K L own cc nL ret d post pc (a0 :: a1 :: a2 :: a3 :: a4 :: a5 :: a6 :: a7 :: a8 :: w :: r) (vi x :: st) σ := q_istore (i := 9) hdg hn (fun j hj w hw => by obtain rfl : j = 8 := (by omega); cases hw; exact ho) rfl kk
theorem q_ast_9 {a0 a1 a2 a3 a4 a5 a6 a7 a8 w : Option Value} {r : List (Option Value)} {x : Nat} (hdg : decode cc pc = .ok (.astore 9, 2)) (hn : 9 < nL) (ho : q_nl a8 = true) (kk : q_T l K L own cc nL ret d post (pc + 2) (a0 :: a1 :: a2 :: a3 :: a4 :: a5 :: a6 :: a7 :: a8 :: some (.ref x) :: r) st σ) : q_T l K L own cc nL ret d post pc (a0 :: a1 :: a2 :: a3 :: a4 :: a5 :: a6 :: a7 :: a8 :: w :: r) (.ref x :: st) σ := q_astore (i := 9) hdg hn (fun j hj w hw => by obtain rfl : j = 8 := (by omega); cases hw; exact ho) rfl kk
theorem q_lst_9 {a0 a1 a2 a3 a4 a5 a6 a7 a8 w w2 : Option Value} {r : List (Option Value)} {x : Int} (hdg : decode cc pc = .ok (.lstore 9, 2)) (hn : 9 + 1 < nL) (ho : q_nl a8 = true) (kk : q_T l K L own cc nL ret d post (pc + 2) (a0 :: a1 :: a2 :: a3 :: a4 :: a5 :: a6 :: a7 :: a8 :: some (vl x) :: none :: r) st σ) : q_T l K L own cc nL ret d post pc (a0 :: a1 :: a2 :: a3 :: a4 :: a5 :: a6 :: a7 :: a8 :: w :: w2 :: r) (vl x :: st) σ := q_lstore (i := 9) hdg hn (fun j hj w hw => by obtain rfl : j = 8 := (by omega); cases hw; exact ho) rfl kk
theorem q_iinc_9 {a0 a1 a2 a3 a4 a5 a6 a7 a8 : Option Value} {r : List (Option Value)} {x n : Int} (hdg : decode cc pc = .ok (.iinc 9 n, 3)) (hn : 9 < nL) (ho : q_nl a8 = true) (kk : q_T l K L own cc nL ret d post (pc + 3) (a0 :: a1 :: a2 :: a3 :: a4 :: a5 :: a6 :: a7 :: a8 :: some (vi (x + n)) :: r) st σ) : q_T l K L own cc nL ret d post pc (a0 :: a1 :: a2 :: a3 :: a4 :: a5 :: a6 :: a7 :: a8 :: some (vi x) :: r) st σ := q_iinc (i := 9) hdg rfl hn (fun j hj w hw => by obtain rfl : j = 8 := (by omega); cases hw; exact ho) rfl kk
theorem q_drop_9 {a0 a1 a2 a3 a4 a5 a6 a7 a8 w : Option Value} {r : List (Option Value)} (kk : q_T l K L own cc nL ret d post pc (a0 :: a1 :: a2 :: a3 :: a4 :: a5 :: a6 :: a7 :: a8 :: none :: r) st σ) : q_T l K L own cc nL ret d post pc (a0 :: a1 :: a2 :: a3 :: a4 :: a5 :: a6 :: a7 :: a8 :: w :: r) st σ := q_lvs (fun q hq => by obtain ⟨j, v⟩ := q; have h := ((q_lv_mem _ 0 j v).mp hq).2; refine (q_lv_mem _ 0 j v).mpr ⟨Nat.zero_le _, ?_⟩; rcases j with _ | _ | _ | _ | _ | _ | _ | _ | _ | _ | j <;> simp_all) kk
theorem q_ist_10 {a0 a1 a2 a3 a4 a5 a6 a7 a8 a9 w : Option Value} {r : List (Option Value)} {x : Int} (hdg : decode cc pc = .ok (.istore 10, 2)) (hn : 10 < nL) (ho : q_nl a9 = true) (kk : q_T l K L own cc nL ret d post (pc + 2) (a0 :: a1 :: a2 :: a3 :: a4 :: a5 :: a6 :: a7 :: a8 :: a9 :: some (vi x) :: r) st σ) : q_T l K L own cc nL ret d post pc (a0 :: a1 :: a2 :: a3 :: a4 :: a5 :: a6 :: a7 :: a8 :: a9 :: w :: r) (vi x :: st) σ := q_istore (i := 10) hdg hn (fun j hj w hw => by obtain rfl : j = 9 := (by omega); cases hw; exact ho) rfl kk
theorem q_ast_10 {a0 a1 a2 a3 a4 a5 a6 a7 a8 a9 w : Option Value} {r : List (Option Value)} {x : Nat} (hdg : decode cc pc = .ok (.astore 10, 2)) (hn : 10 < nL) (ho : q_nl a9 = true) (kk : q_T l K L own cc nL ret d post (pc + 2) (a0 :: a1 :: a2 :: a3 :: a4 :: a5 :: a6 :: a7 :: a8 :: a9 :: some (.ref x) :: r) st σ) : q_T l K L own cc nL ret d post pc (a0 :: a1 :: a2 :: a3 :: a4 :: a5 :: a6 :: a7 :: a8 :: a9 :: w :: r) (.ref x :: st) σ := q_astore (i := 10) hdg hn (fun j hj w hw => by obtain rfl : j = 9 := (by omega); cases hw; exact ho) rfl kk
theorem q_lst_10 {a0 a1 a2 a3 a4 a5 a6 a7 a8 a9 w w2 : Option Value} {r : List (Option Value)} {x : Int} (hdg : decode cc pc = .ok (.lstore 10, 2)) (hn : 10 + 1 < nL) (ho : q_nl a9 = true) (kk : q_T l K L own cc nL ret d post (pc + 2) (a0 :: a1 :: a2 :: a3 :: a4 :: a5 :: a6 :: a7 :: a8 :: a9 :: some (vl x) :: none :: r) st σ) : q_T l K L own cc nL ret d post pc (a0 :: a1 :: a2 :: a3 :: a4 :: a5 :: a6 :: a7 :: a8 :: a9 :: w :: w2 :: r) (vl x :: st) σ := q_lstore (i := 10) hdg hn (fun j hj w hw => by obtain rfl : j = 9 := (by omega); cases hw; exact ho) rfl kk
theorem q_iinc_10 {a0 a1 a2 a3 a4 a5 a6 a7 a8 a9 : Option Value} {r : List (Option Value)} {x n : Int} (hdg : decode cc pc = .ok (.iinc 10 n, 3)) (hn : 10 < nL) (ho : q_nl a9 = true) (kk : q_T l K L own cc nL ret d post (pc + 3) (a0 :: a1 :: a2 :: a3 :: a4 :: a5 :: a6 :: a7 :: a8 :: a9 :: some (vi (x + n)) :: r) st σ) : q_T l K L own cc nL ret d post pc (a0 :: a1 :: a2 :: a3 :: a4 :: a5 :: a6 :: a7 :: a8 :: a9 :: some (vi x) :: r) st σ := q_iinc (i := 10) hdg rfl hn (fun j hj w hw => by obtain rfl : j = 9 := (by omega); cases hw; exact ho) rfl kk
theorem q_drop_10 {a0 a1 a2 a3 a4 a5 a6 a7 a8 a9 w : Option Value} {r : List (Option Value)} (kk : q_T l K L own cc nL ret d post pc (a0 :: a1 :: a2 :: a3 :: a4 :: a5 :: a6 :: a7 :: a8 :: a9 :: none :: r) st σ) : q_T l K L own cc nL ret d post pc (a0 :: a1 :: a2 :: a3 :: a4 :: a5 :: a6 :: a7 :: a8 :: a9 :: w :: r) st σ := q_lvs (fun q hq => by obtain ⟨j, v⟩ := q; have h := ((q_lv_mem _ 0 j v).mp hq).2; refine (q_lv_mem _ 0 j v).mpr ⟨Nat.zero_le _, ?_⟩; rcases j with _ | _ | _ | _ | _ | _ | _ | _ | _ | _ | _ | j <;> simp_all) kk
theorem q_ist_11 {a0 a1 a2 a3 a4 a5 a6 a7 a8 a9 a10 w : Option Value} {r : List (Option Value)} {x : Int} (hdg : decode cc pc = .ok (.istore 11, 2)) (hn : 11 < nL) (ho : q_nl a10 = true) (kk : q_T l K L own cc nL ret d post (pc + 2) (a0 :: a1 :: a2 :: a3 :: a4 :: a5 :: a6 :: a7 :: a8 :: a9 :: a10 :: some (vi x) :: r) st σ) : q_T l K L own cc nL ret d post pc (a0 :: a1 :: a2 :: a3 :: a4 :: a5 :: a6 :: a7 :: a8 :: a9 :: a10 :: w :: r) (vi x :: st) σ := q_istore (i := 11) hdg hn (fun j hj w hw => by obtain rfl : j = 10 := (by omega); cases hw; exact ho) rfl kk
theorem q_ast_11 {a0 a1 a2 a3 a4 a5 a6 a7 a8 a9 a10 w : Option Value} {r : List (Option Value)} {x : Nat} (hdg : decode cc pc = .ok (.astore 11, 2)) (hn : 11 < nL) (ho : q_nl a10 = true) (kk : q_T l K L own cc nL ret d post (pc + 2) (a0 :: a1 :: a2 :: a3 :: a4 :: a5 :: a6 :: a7 :: a8 :: a9 :: a10 :: some (.ref x) :: r) st σ) : q_T l K L own cc nL ret d post pc (a0 :: a1 :: a2 :: a3 :: a4 :: a5 :: a6 :: a7 :: a8 :: a9 :: a10 :: w :: r) (.ref x :: st) σ := q_astore (i := 11) hdg hn (fun j hj w hw => by obtain rfl : j = 10 := (by omega); cases hw; exact ho) rfl kk
theorem q_lst_11 {a0 a1 a2 a3 a4 a5 a6 a7 a8 a9 a10 w w2 : Option Value} {r : List (Option Value)} {x : Int} (hdg : decode cc pc = .ok (.lstore 11, 2)) (hn : 11 + 1 < nL) (ho : q_nl a10 = true) (kk : q_T l K L own cc nL ret d post (pc + 2) (a0 :: a1 :: a2 :: a3 :: a4 :: a5 :: a6 :: a7 :: a8 :: a9 :: a10 :: some (vl x) :: none :: r) st σ) : q_T l K L own cc nL ret d post pc (a0 :: a1 :: a2 :: a3 :: a4 :: a5 :: a6 :: a7 :: a8 :: a9 :: a10 :: w :: w2 :: r) (vl x :: st) σ := q_lstore (i := 11) hdg hn (fun j hj w hw => by obtain rfl : j = 10 := (by omega); cases hw; exact ho) rfl kk
theorem q_iinc_11 {a0 a1 a2 a3 a4 a5 a6 a7 a8 a9 a10 : Option Value} {r : List (Option Value)} {x n : Int} (hdg : decode cc pc = .ok (.iinc 11 n, 3)) (hn : 11 < nL) (ho : q_nl a10 = true) (kk : q_T l K L own cc nL ret d post (pc + 3) (a0 :: a1 :: a2 :: a3 :: a4 :: a5 :: a6 :: a7 :: a8 :: a9 :: a10 :: some (vi (x + n)) :: r) st σ) : q_T l K L own cc nL ret d post pc (a0 :: a1 :: a2 :: a3 :: a4 :: a5 :: a6 :: a7 :: a8 :: a9 :: a10 :: some (vi x) :: r) st σ := q_iinc (i := 11) hdg rfl hn (fun j hj w hw => by obtain rfl : j = 10 := (by omega); cases hw; exact ho) rfl kk
theorem q_drop_11 {a0 a1 a2 a3 a4 a5 a6 a7 a8 a9 a10 w : Option Value} {r : List (Option Value)} (kk : q_T l K L own cc nL ret d post pc (a0 :: a1 :: a2 :: a3 :: a4 :: a5 :: a6 :: a7 :: a8 :: a9 :: a10 :: none :: r) st σ) : q_T l K L own cc nL ret d post pc (a0 :: a1 :: a2 :: a3 :: a4 :: a5 :: a6 :: a7 :: a8 :: a9 :: a10 :: w :: r) st σ := q_lvs (fun q hq => by obtain ⟨j, v⟩ := q; have h := ((q_lv_mem _ 0 j v).mp hq).2; refine (q_lv_mem _ 0 j v).mpr ⟨Nat.zero_le _, ?_⟩; rcases j with _ | _ | _ | _ | _ | _ | _ | _ | _ | _ | _ | _ | j <;> simp_all) kk
theorem q_ist_12 {a0 a1 a2 a3 a4 a5 a6 a7 a8 a9 a10 a11 w : Option Value} {r : List (Option Value)} {x : Int} (hdg : decode cc pc = .ok (.istore 12, 2)) (hn : 12 < nL) (ho : q_nl a11 = true) (kk : q_T l K L own cc nL ret d post (pc + 2) (a0 :: a1 :: a2 :: a3 :: a4 :: a5 :: a6 :: a7 :: a8 :: a9 :: a10 :: a11 :: some (vi x) :: r) st σ) : q_T l K L own cc nL ret d post pc (a0 :: a1 :: a2 :: a3 :: a4 :: a5 :: a6 :: a7 :: a8 :: a9 :: a10 :: a11 :: w :: r) (vi x :: st) σ := q_istore (i := 12) hdg hn (fun j hj w hw => by obtain rfl : j = 11 := (by omega); cases hw; exact ho) rfl kk
theorem q_ast_12 {a0 a1 a2 a3 a4 a5 a6 a7 a8 a9 a10 a11 w : Option Value} {r : List (Option Value)} {x : Nat} (hdg : decode cc pc = .ok (.astore 12, 2)) (hn : 12 < nL) (ho : q_nl a11 = true) (kk : q_T l K L own cc nL ret d post (pc + 2) (a0 :: a1 :: a2 :: a3 :: a4 :: a5 :: a6 :: a7 :: a8 :: a9 :: a10 :: a11 :: some (.ref x) :: r) st σ) : q_T l K L own cc nL ret d post pc (a0 :: a1 :: a2 :: a3 :: a4 :: a5 :: a6 :: a7 :: a8 :: a9 :: a10 :: a11 :: w :: r) (.ref x :: st) σ := q_astore (i := 12) hdg hn (fun j hj w hw => by obtain rfl : j = 11 := (by omega); cases hw; exact ho) rfl kk
theorem q_lst_12 {a0 a1 a2 a3 a4 a5 a6 a7 a8 a9 a10 a11 w w2 : Option Value} {r : List (Option Value)} {x : Int} (hdg : decode cc pc = .ok (.lstore 12, 2)) (hn : 12 + 1 < nL) (ho : q_nl a11 = true) (kk : q_T l K L own cc nL ret d post (pc + 2) (a0 :: a1 :: a2 :: a3 :: a4 :: a5 :: a6 :: a7 :: a8 :: a9 :: a10 :: a11 :: some (vl x) :: none :: r) st σ) : q_T l K L own cc nL ret d post pc (a0 :: a1 :: a2 :: a3 :: a4 :: a5 :: a6 :: a7 :: a8 :: a9 :: a10 :: a11 :: w :: w2 :: r) (vl x :: st) σ := q_lstore (i := 12) hdg hn (fun j hj w hw => by obtain rfl : j = 11 := (by omega); cases hw; exact ho) rfl kk
theorem q_iinc_12 {a0 a1 a2 a3 a4 a5 a6 a7 a8 a9 a10 a11 : Option Value} {r : List (Option Value)} {x n : Int} (hdg : decode cc pc = .ok (.iinc 12 n, 3)) (hn : 12 < nL) (ho : q_nl a11 = true) (kk : q_T l K L own cc nL ret d post (pc + 3) (a0 :: a1 :: a2 :: a3 :: a4 :: a5 :: a6 :: a7 :: a8 :: a9 :: a10 :: a11 :: some (vi (x + n)) :: r) st σ) : q_T l K L own cc nL ret d post pc (a0 :: a1 :: a2 :: a3 :: a4 :: a5 :: a6 :: a7 :: a8 :: a9 :: a10 :: a11 :: some (vi x) :: r) st σ := q_iinc (i := 12) hdg rfl hn (fun j hj w hw => by obtain rfl : j = 11 := (by omega); cases hw; exact ho) rfl kk
theorem q_drop_12 {a0 a1 a2 a3 a4 a5 a6 a7 a8 a9 a10 a11 w : Option Value} {r : List (Option Value)} (kk : q_T l K L own cc nL ret d post pc (a0 :: a1 :: a2 :: a3 :: a4 :: a5 :: a6 :: a7 :: a8 :: a9 :: a10 :: a11 :: none :: r) st σ) : q_T l K L own cc nL ret d post pc (a0 :: a1 :: a2 :: a3 :: a4 :: a5 :: a6 :: a7 :: a8 :: a9 :: a10 :: a11 :: w :: r) st σ := q_lvs (fun q hq => by obtain ⟨j, v⟩ := q; have h := ((q_lv_mem _ 0 j v).mp hq).2; refine (q_lv_mem _ 0 j v).mpr ⟨Nat.zero_le _, ?_⟩; rcases j with _ | _ | _ | _ | _ | _ | _ | _ | _ | _ | _ | _ | _ | j <;> simp_all) kk
theorem q_ist_13 {a0 a1 a2 a3 a4 a5 a6 a7 a8 a9 a10 a11 a12 w : Option Value} {r : List (Option Value)} {x : Int} (hdg : decode cc pc = .ok (.istore 13, 2)) (hn : 13 < nL) (ho : q_nl a12 = true) (kk : q_T l K L own cc nL ret d post (pc + 2) (a0 :: a1 :: a2 :: a3 :: a4 :: a5 :: a6 :: a7 :: a8 :: a9 :: a10 :: a11 :: a12 :: some (vi x) :: r) st σ) : q_T l K L own cc nL ret d post pc (a0 :: a1 :: a2 :: a3 :: a4 :: a5 :: a6 :: a7 :: a8 :: a9 :: a10 :: a11 :: a12 :: w :: r) (vi x :: st) σ := q_istore (i := 13) hdg hn (fun j hj w hw => by obtain rfl : j = 12 := (by omega); cases hw; exact ho) rfl kk
theorem q_ast_13 {a0 a1 a2 a3 a4 a5 a6 a7 a8 a9 a10 a11 a12 w : Option Value} {r : List (Option Value)} {x : Nat} (hdg : decode cc pc = .ok (.astore 13, 2)) (hn : 13 < nL) (ho : q_nl a12 = true) (kk : q_T l K L own cc nL ret d post (pc + 2) (a0 :: a1 :: a2 :: a3 :: a4 :: a5 :: a6 :: a7 :: a8 :: a9 :: a10 :: a11 :: a12 :: some (.ref x) :: r) st σ) : q_T l K L own cc nL ret d post pc (a0 :: a1 :: a2 :: a3 :: a4 :: a5 :: a6 :: a7 :: a8 :: a9 :: a10 :: a11 :: a12 :: w :: r) (.ref x :: st) σ := q_astore (i := 13) hdg hn (fun j hj w hw => by obtain rfl : j = 12 := (by omega); cases hw; exact ho) rfl kk
theorem q_lst_13 {a0 a1 a2 a3 a4 a5 a6 a7 a8 a9 a10 a11 a12 w w2 : Option Value} {r : List (Option Value)} {x : Int} (hdg : decode cc pc = .ok (.lstore 13, 2)) (hn : 13 + 1 < nL) (ho : q_nl a12 = true) (kk : q_T l K L own cc nL ret d post (pc + 2) (a0 :: a1 :: a2 :: a3 :: a4 :: a5 :: a6 :: a7 :: a8 :: a9 :: a10 :: a11 :: a12 :: some (vl x) :: none :: r) st σ) : q_T l K L own cc nL ret d post pc (a0 :: a1 :: a2 :: a3 :: a4 :: a5 :: a6 :: a7 :: a8 :: a9 :: a10 :: a11 :: a12 :: w :: w2 :: r) (vl x :: st) σ := q_lstore (i := 13) hdg hn (fun j hj w hw => by obtain rfl : j = 12 := (by omega); cases hw; exact ho) rfl kk
theorem q_iinc_13 {a0 a1 a2 a3 a4 a5 a6 a7 a8 a9 a10 a11 a12 : Option Value} {r : List (Option Value)} {x n : Int} (hdg : decode cc pc = .ok (.iinc 13 n, 3)) (hn : 13 < nL) (ho : q_nl a12 = true) (kk : q_T l K L own cc nL ret d post (pc + 3) (a0 :: a1 :: a2 :: a3 :: a4 :: a5 :: a6 :: a7 :: a8 :: a9 :: a10 :: a11 :: a12 :: some (vi (x + n)) :: r) st σ) : q_T l K L own cc nL ret d post pc (a0 :: a1 :: a2 :: a3 :: a4 :: a5 :: a6 :: a7 :: a8 :: a9 :: a10 :: a11 :: a12 :: some (vi x) :: r) st σ := q_iinc (i := 13) hdg rfl hn (fun j hj w hw => by obtain rfl : j = 12 := (by omega); cases hw; exact ho) rfl kk
theorem q_drop_13 {a0 a1 a2 a3 a4 a5 a6 a7 a8 a9 a10 a11 a12 w : Option Value} {r : List (Option Value)} (kk : q_T l K L own cc nL ret d post pc (a0 :: a1 :: a2 :: a3 :: a4 :: a5 :: a6 :: a7 :: a8 :: a9 :: a10 :: a11 :: a12 :: none :: r) st σ) : q_T l K L own cc nL ret d post pc (a0 :: a1 :: a2 :: a3 :: a4 :: a5 :: a6 :: a7 :: a8 :: a9 :: a10 :: a11 :: a12 :: w :: r) st σ := q_lvs (fun q hq => by obtain ⟨j, v⟩ := q; have h := ((q_lv_mem _ 0 j v).mp hq).2; refine (q_lv_mem _ 0 j v).mpr ⟨Nat.zero_le _, ?_⟩; rcases j with _ | _ | _ | _ | _ | _ | _ | _ | _ | _ | _ | _ | _ | _ | j <;> simp_all) kk
theorem q_ist_14 {a0 a1 a2 a3 a4 a5 a6 a7 a8 a9 a10 a11 a12 a13 w : Option Value} {r : List (Option Value)} {x : Int} (hdg : decode cc pc = .ok (.istore 14, 2)) (hn : 14 < nL) (ho : q_nl a13 = true) (kk : q_T l K L own cc nL ret d post (pc + 2) (a0 :: a1 :: a2 :: a3 :: a4 :: a5 :: a6 :: a7 :: a8 :: a9 :: a10 :: a11 :: a12 :: a13 :: some (vi x) :: r) st σ) : q_T l K L own cc nL ret d post pc (a0 :: a1 :: a2 :: a3 :: a4 :: a5 :: a6 :: a7 :: a8 :: a9 :: a10 :: a11 :: a12 :: a13 :: w :: r) (vi x :: st) σ := q_istore (i := 14) hdg hn (fun j hj w hw => by obtain rfl : j = 13 := (by omega); cases hw; exact ho) rfl kk
theorem q_ast_14 {a0 a1 a2 a3 a4 a5 a6 a7 a8 a9 a10 a11 a12 a13 w : Option Value} {r : List (Option Value)} {x : Nat} (hdg : decode cc pc = .ok (.astore 14, 2)) (hn : 14 < nL) (ho : q_nl a13 = true) (kk : q_T l K L own cc nL ret d post (pc + 2) (a0 :: a1 :: a2 :: a3 :: a4 :: a5 :: a6 :: a7 :: a8 :: a9 :: a10 :: a11 :: a12 :: a13 :: some (.ref x) :: r) st σ) : q_T l K L own cc nL ret d post pc (a0 :: a1 :: a2 :: a3 :: a4 :: a5 :: a6 :: a7 :: a8 :: a9 :: a10 :: a11 :: a12 :: a13 :: w :: r) (.ref x :: st) σ := q_astore (i := 14) hdg hn (fun j hj w hw => by obtain rfl : j = 13 := (by omega); cases hw; exact ho) rfl kk
theorem q_lst_14 {a0 a1 a2 a3 a4 a5 a6 a7 a8 a9 a10 a11 a12 a13 w w2 : Option Value} {r : List (Option Value)} {x : Int} (hdg : decode cc pc = .ok (.lstore 14, 2)) (hn : 14 + 1 < nL) (ho : q_nl a13 = true) (kk : q_T l K L own cc nL ret d post (pc + 2) (a0 :: a1 :: a2 :: a3 :: a4 :: a5 :: a6 :: a7 :: a8 :: a9 :: a10 :: a11 :: a12 :: a13 :: some (vl x) :: none :: r) st σ) : q_T l K L own cc nL ret d post pc (a0 :: a1 :: a2 :: a3 :: a4 :: a5 :: a6 :: a7 :: a8 :: a9 :: a10 :: a11 :: a12 :: a13 :: w :: w2 :: r) (vl x :: st) σ := q_lstore (i := 14) hdg hn (fun j hj w hw => by obtain rfl : j = 13 := (by omega); cases hw; exact ho) rfl kk
theorem q_iinc_14 {a0 a1 a2 a3 a4 a5 a6 a7 a8 a9 a10 a11 a12 a13 : Option Value} {r : List (Option Value)} {x n : Int} (hdg : decode cc pc = .ok (.iinc 14 n, 3)) (hn : 14 < nL) (ho : q_nl a13 = true) (kk : q_T l K L own cc nL ret d post (pc + 3) (a0 :: a1 :: a2 :: a3 :: a4 :: a5 :: a6 :: a7 :: a8 :: a9 :: a10 :: a11 :: a12 :: a13 :: some (vi (x + n)) :: r) st σ) : q_T l K L own cc nL ret d post pc (a0 :: a1 :: a2 :: a3 :: a4 :: a5 :: a6 :: a7 :: a8 :: a9 :: a10 :: a11 :: a12 :: a13 :: some (vi x) :: r) st σ := q_iinc (i := 14) hdg rfl hn (fun j hj w hw => by obtain rfl : j = 13 := (by omega); cases hw; exact ho) rfl kk
theorem q_drop_14 {a0 a1 a2 a3 a4 a5 a6 a7 a8 a9 a10 a11 a12 a13 w : Option Value} {r : List (Option Value)} (kk : q_T l K L own cc nL ret d post pc (a0 :: a1 :: a2 :: a3 :: a4 :: a5 :: a6 :: a7 :: a8 :: a9 :: a10 :: a11 :: a12 :: a13 :: none :: r) st σ) : q_T l K L own cc nL ret d post pc (a0 :: a1 :: a2 :: a3 :: a4 :: a5 :: a6 :: a7 :: a8 :: a9 :: a10 :: a11 :: a12 :: a13 :: w :: r) st σ := q_lvs (fun q hq => by obtain ⟨j, v⟩ := q; have h := ((q_lv_mem _ 0 j v).mp hq).2; refine (q_lv_mem _ 0 j v).mpr ⟨Nat.zero_le _, ?_⟩; rcases j with _ | _ | _ | _ | _ | _ | _ | _ | _ | _ | _ | _ | _ | _ | _ | j <;> simp_all) kk
theorem q_ist_15 {a0 a1 a2 a3 a4 a5 a6 a7 a8 a9 a10 a11 a12 a13 a14 w : Option Value} {r : List (Option Value)} {x : Int} (hdg : decode cc pc = .ok (.istore 15, 2)) (hn : 15 < nL) (ho : q_nl a14 = true) (kk : q_T l K L own cc nL ret d post (pc + 2) (a0 :: a1 :: a2 :: a3 :: a4 :: a5 :: a6 :: a7 :: a8 :: a9 :: a10 :: a11 :: a12 :: a13 :: a14 :: some (vi x) :: r) st σ) : q_T l K L own cc nL ret d post pc (a0 :: a1 :: a2 :: a3 :: a4 :: a5 :: a6 :: a7 :: a8 :: a9 :: a10 :: a11 :: a12 :: a13 :: a14 :: w :: r) (vi x :: st) σ := q_istore (i := 15) hdg hn (fun j hj w hw => by obtain rfl : j = 14 := (by omega); cases hw; exact ho) rfl kk
theorem q_ast_15 {a0 a1 a2 a3 a4 a5 a6 a7 a8 a9 a10 a11 a12 a13 a14 w : Option Value} {r : List (Option Value)} {x : Nat} (hdg : decode cc pc = .ok (.astore 15, 2)) (hn : 15 < nL) (ho : q_nl a14 = true) (kk : q_T l K L own cc nL ret d post (pc + 2) (a0 :: a1 :: a2 :: a3 :: a4 :: a5 :: a6 :: a7 :: a8 :: a9 :: a10 :: a11 :: a12 :: a13 :: a14 :: some (.ref x) :: r) st σ) : q_T l K L own cc nL ret d post pc (a0 :: a1 :: a2 :: a3 :: a4 :: a5 :: a6 :: a7 :: a8 :: a9 :: a10 :: a11 :: a12 :: a13 :: a14 :: w :: r) (.ref x :: st) σ := q_astore (i := 15) hdg hn (fun j hj w hw => by obtain rfl : j = 14 := (by omega); cases hw; exact ho) rfl kk
theorem q_lst_15 {a0 a1 a2 a3 a4 a5 a6 a7 a8 a9 a10 a11 a12 a13 a14 w w2 : Option Value} {r : List (Option Value)} {x : Int} (hdg : decode cc pc = .ok (.lstore 15, 2)) (hn : 15 + 1 < nL) (ho : q_nl a14 = true) (kk : q_T l K L own cc nL ret d post (pc + 2) (a0 :: a1 :: a2 :: a3 :: a4 :: a5 :: a6 :: a7 :: a8 :: a9 :: a10 :: a11 :: a12 :: a13 :: a14 :: some (vl x) :: none :: r) st σ) : q_T l K L own cc nL ret d post pc (a0 :: a1 :: a2 :: a3 :: a4 :: a5 :: a6 :: a7 :: a8 :: a9 :: a10 :: a11 :: a12 :: a13 :: a14 :: w :: w2 :: r) (vl x :: st) σ := q_lstore (i := 15) hdg hn (fun j hj w hw => by obtain rfl : j = 14 := (by omega); cases hw; exact ho) rfl kk
theorem q_iinc_15 {a0 a1 a2 a3 a4 a5 a6 a7 a8 a9 a10 a11 a12 a13 a14 : Option Value} {r : List (Option Value)} {x n : Int} (hdg : decode cc pc = .ok (.iinc 15 n, 3)) (hn : 15 < nL) (ho : q_nl a14 = true) (kk : q_T l K L own cc nL ret d post (pc + 3) (a0 :: a1 :: a2 :: a3 :: a4 :: a5 :: a6 :: a7 :: a8 :: a9 :: a10 :: a11 :: a12 :: a13 :: a14 :: some (vi (x + n)) :: r) st σ) : q_T l K L own cc nL ret d post pc (a0 :: a1 :: a2 :: a3 :: a4 :: a5 :: a6 :: a7 :: a8 :: a9 :: a10 :: a11 :: a12 :: a13 :: a14 :: some (vi x) :: r) st σ := q_iinc (i := 15) hdg rfl hn (fun j hj w hw => by obtain rfl : j = 14 := (by omega); cases hw; exact ho) rfl kk
theorem q_drop_15 {a0 a1 a2 a3 a4 a5 a6 a7 a8 a9 a10 a11 a12 a13 a14 w : Option Value} {r : List (Option Value)} (kk : q_T l K L own cc nL ret d post pc (a0 :: a1 :: a2 :: a3 :: a4 :: a5 :: a6 :: a7 :: a8 :: a9 :: a10 :: a11 :: a12 :: a13 :: a14 :: none :: r) st σ) : q_T l K L own cc nL ret d post pc (a0 :: a1 :: a2 :: a3 :: a4 :: a5 :: a6 :: a7 :: a8 :: a9 :: a10 :: a11 :: a12 :: a13 :: a14 :: w :: r) st σ := q_lvs (fun q hq => by obtain ⟨j, v⟩ := q; have h := ((q_lv_mem _ 0 j v).mp hq).2; refine (q_lv_mem _ 0 j v).mpr ⟨Nat.zero_le _, ?_⟩; rcases j with _ | _ | _ | _ | _ | _ | _ | _ | _ | _ | _ | _ | _ | _ | _ | _ | j <;> simp_all) kk
theorem q_iadd {x y : Int} (hdg : decode cc pc = .ok (.iadd, 1)) (kk : q_T l K L own cc nL ret d post (pc + 1) lv (vi (x + y) :: st) σ) : q_T l K L own cc nL ret d post pc lv (vi y :: vi x :: st) σ := by
  intro p e s m args below meth c H locs ls f f0 sz X hr hz hS ha hf hl
  exact lv_iadd X.1 X.2.1 hdg (q_tp (congrArg Value.int (Int32.ofInt_add x y).symm) (kk _ _ _ _ _ _ _ _ _ _ _ _ _ _ X hr hz hS ha hf hl))
theorem q_isub {x y : Int} (hdg : decode cc pc = .ok (.isub, 1)) (kk : q_T l K L own cc nL ret d post (pc + 1) lv (vi (x - y) :: st) σ) : q_T l K L own cc nL ret d post pc lv (vi y :: vi x :: st) σ := by
  intro p e s m args below meth c H locs ls f f0 sz X hr hz hS ha hf hl
  exact lv_isub X.1 X.2.1 hdg (q_tp (congrArg Value.int (q_isub_eq x y).symm) (kk _ _ _ _ _ _ _ _ _ _ _ _ _ _ X hr hz hS ha hf hl))
theorem q_imul {x y : Int} (hdg : decode cc pc = .ok (.imul, 1)) (kk : q_T l K L own cc nL ret d post (pc + 1) lv (vi (x * y) :: st) σ) : q_T l K L own cc nL ret d post pc lv (vi y :: vi x :: st) σ := by
  intro p e s m args below meth c H locs ls f f0 sz X hr hz hS ha hf hl
  exact lv_imul X.1 X.2.1 hdg (q_tp (congrArg Value.int (Int32.ofInt_mul x y).symm) (kk _ _ _ _ _ _ _ _ _ _ _ _ _ _ X hr hz hS ha hf hl))
theorem q_ladd {x y : Int} (hdg : decode cc pc = .ok (.ladd, 1)) (kk : q_T l K L own cc nL ret d post (pc + 1) lv (vl (x + y) :: st) σ) : q_T l K L own cc nL ret d post pc lv (vl y :: vl x :: st) σ := by
  intro p e s m args below meth c H locs ls f f0 sz X hr hz hS ha hf hl
  exact lv_ladd X.1 X.2.1 hdg (q_tp (congrArg Value.long (Int64.ofInt_add x y).symm) (kk _ _ _ _ _ _ _ _ _ _ _ _ _ _ X hr hz hS ha hf hl))
theorem q_lsub {x y : Int} (hdg : decode cc pc = .ok (.lsub, 1)) (kk : q_T l K L own cc nL ret d post (pc + 1) lv (vl (x - y) :: st) σ) : q_T l K L own cc nL ret d post pc lv (vl y :: vl x :: st) σ := by
  intro p e s m args below meth c H locs ls f f0 sz X hr hz hS ha hf hl
  exact lv_lsub X.1 X.2.1 hdg (q_tp (congrArg Value.long (q_lsub_eq x y).symm) (kk _ _ _ _ _ _ _ _ _ _ _ _ _ _ X hr hz hS ha hf hl))
theorem q_lmul {x y : Int} (hdg : decode cc pc = .ok (.lmul, 1)) (kk : q_T l K L own cc nL ret d post (pc + 1) lv (vl (x * y) :: st) σ) : q_T l K L own cc nL ret d post pc lv (vl y :: vl x :: st) σ := by
  intro p e s m args below meth c H locs ls f f0 sz X hr hz hS ha hf hl
  exact lv_lmul X.1 X.2.1 hdg (q_tp (congrArg Value.long (Int64.ofInt_mul x y).symm) (kk _ _ _ _ _ _ _ _ _ _ _ _ _ _ X hr hz hS ha hf hl))
theorem q_ineg {x : Int} (hdg : decode cc pc = .ok (.ineg, 1)) (kk : q_T l K L own cc nL ret d post (pc + 1) lv (vi (-x) :: st) σ) : q_T l K L own cc nL ret d post pc lv (vi x :: st) σ := by
  intro p e s m args below meth c H locs ls f f0 sz X hr hz hS ha hf hl
  exact lv_ineg X.1 X.2.1 hdg (q_tp (congrArg Value.int (Int32.ofInt_neg x).symm) (kk _ _ _ _ _ _ _ _ _ _ _ _ _ _ X hr hz hS ha hf hl))
theorem q_lneg {x : Int} (hdg : decode cc pc = .ok (.lneg, 1)) (kk : q_T l K L own cc nL ret d post (pc + 1) lv (vl (-x) :: st) σ) : q_T l K L own cc nL ret d post pc lv (vl x :: st) σ := by
  intro p e s m args below meth c H locs ls f f0 sz X hr hz hS ha hf hl
  exact lv_lneg X.1 X.2.1 hdg (q_tp (congrArg Value.long (Int64.ofInt_neg x).symm) (kk _ _ _ _ _ _ _ _ _ _ _ _ _ _ X hr hz hS ha hf hl))
theorem q_i2l {x : Int} (hx : -2147483648 ≤ x ∧ x < 2147483648) (hdg : decode cc pc = .ok (.i2l, 1)) (kk : q_T l K L own cc nL ret d post (pc + 1) lv (vl x :: st) σ) : q_T l K L own cc nL ret d post pc lv (vi x :: st) σ := by
  intro p e s m args below meth c H locs ls f f0 sz X hr hz hS ha hf hl
  exact lv_i2l X.1 X.2.1 hdg (q_i2l_eq hx) (kk _ _ _ _ _ _ _ _ _ _ _ _ _ _ X hr hz hS ha hf hl)
theorem q_l2i {x : Int} (hdg : decode cc pc = .ok (.l2i, 1)) (kk : q_T l K L own cc nL ret d post (pc + 1) lv (vi x :: st) σ) : q_T l K L own cc nL ret d post pc lv (vl x :: st) σ := by
  intro p e s m args below meth c H locs ls f f0 sz X hr hz hS ha hf hl
  exact lv_l2i X.1 X.2.1 hdg (q_l2i_eq x) (kk _ _ _ _ _ _ _ _ _ _ _ _ _ _ X hr hz hS ha hf hl)
theorem q_i2b {x : Int} (hx : -128 ≤ x ∧ x < 128) (hdg : decode cc pc = .ok (.i2b, 1)) (kk : q_T l K L own cc nL ret d post (pc + 1) lv (vi x :: st) σ) : q_T l K L own cc nL ret d post pc lv (vi x :: st) σ := by
  intro p e s m args below meth c H locs ls f f0 sz X hr hz hS ha hf hl
  exact lv_i2b X.1 X.2.1 hdg (q_i2b_eq hx) (kk _ _ _ _ _ _ _ _ _ _ _ _ _ _ X hr hz hS ha hf hl)
theorem q_iand {x y z : Int} (hv : Int32.ofInt x &&& Int32.ofInt y = Int32.ofInt z) (hdg : decode cc pc = .ok (.iand, 1)) (kk : q_T l K L own cc nL ret d post (pc + 1) lv (vi z :: st) σ) : q_T l K L own cc nL ret d post pc lv (vi y :: vi x :: st) σ := by
  intro p e s m args below meth c H locs ls f f0 sz X hr hz hS ha hf hl
  exact lv_iand X.1 X.2.1 hdg (q_tp (congrArg Value.int hv) (kk _ _ _ _ _ _ _ _ _ _ _ _ _ _ X hr hz hS ha hf hl))
theorem q_ior {x y z : Int} (hv : Int32.ofInt x ||| Int32.ofInt y = Int32.ofInt z) (hdg : decode cc pc = .ok (.ior, 1)) (kk : q_T l K L own cc nL ret d post (pc + 1) lv (vi z :: st) σ) : q_T l K L own cc nL ret d post pc lv (vi y :: vi x :: st) σ := by
  intro p e s m args below meth c H locs ls f f0 sz X hr hz hS ha hf hl
  exact lv_ior X.1 X.2.1 hdg (q_tp (congrArg Value.int hv) (kk _ _ _ _ _ _ _ _ _ _ _ _ _ _ X hr hz hS ha hf hl))
theorem q_ixor {x y z : Int} (hv : Int32.ofInt x ^^^ Int32.ofInt y = Int32.ofInt z) (hdg : decode cc pc = .ok (.ixor, 1)) (kk : q_T l K L own cc nL ret d post (pc + 1) lv (vi z :: st) σ) : q_T l K L own cc nL ret d post pc lv (vi y :: vi x :: st) σ := by
  intro p e s m args below meth c H locs ls f f0 sz X hr hz hS ha hf hl
  exact lv_ixor X.1 X.2.1 hdg (q_tp (congrArg Value.int hv) (kk _ _ _ _ _ _ _ _ _ _ _ _ _ _ X hr hz hS ha hf hl))
theorem q_land {x y z : Int} (hv : Int64.ofInt x &&& Int64.ofInt y = Int64.ofInt z) (hdg : decode cc pc = .ok (.land, 1)) (kk : q_T l K L own cc nL ret d post (pc + 1) lv (vl z :: st) σ) : q_T l K L own cc nL ret d post pc lv (vl y :: vl x :: st) σ := by
  intro p e s m args below meth c H locs ls f f0 sz X hr hz hS ha hf hl
  exact lv_land X.1 X.2.1 hdg (q_tp (congrArg Value.long hv) (kk _ _ _ _ _ _ _ _ _ _ _ _ _ _ X hr hz hS ha hf hl))
theorem q_lor {x y z : Int} (hv : Int64.ofInt x ||| Int64.ofInt y = Int64.ofInt z) (hdg : decode cc pc = .ok (.lor, 1)) (kk : q_T l K L own cc nL ret d post (pc + 1) lv (vl z :: st) σ) : q_T l K L own cc nL ret d post pc lv (vl y :: vl x :: st) σ := by
  intro p e s m args below meth c H locs ls f f0 sz X hr hz hS ha hf hl
  exact lv_lor X.1 X.2.1 hdg (q_tp (congrArg Value.long hv) (kk _ _ _ _ _ _ _ _ _ _ _ _ _ _ X hr hz hS ha hf hl))
theorem q_ishl {x y z : Int} (hv : Int32.ofInt x <<< (Int32.ofInt y &&& 31) = Int32.ofInt z) (hdg : decode cc pc = .ok (.ishl, 1)) (kk : q_T l K L own cc nL ret d post (pc + 1) lv (vi z :: st) σ) : q_T l K L own cc nL ret d post pc lv (vi y :: vi x :: st) σ := by
  intro p e s m args below meth c H locs ls f f0 sz X hr hz hS ha hf hl
  exact lv_ishl X.1 X.2.1 hdg (q_tp (congrArg Value.int hv) (kk _ _ _ _ _ _ _ _ _ _ _ _ _ _ X hr hz hS ha hf hl))
theorem q_ishr {x y z : Int} (hv : Int32.ofInt x >>> (Int32.ofInt y &&& 31) = Int32.ofInt z) (hdg : decode cc pc = .ok (.ishr, 1)) (kk : q_T l K L own cc nL ret d post (pc + 1) lv (vi z :: st) σ) : q_T l K L own cc nL ret d post pc lv (vi y :: vi x :: st) σ := by
  intro p e s m args below meth c H locs ls f f0 sz X hr hz hS ha hf hl
  exact lv_ishr X.1 X.2.1 hdg (q_tp (congrArg Value.int hv) (kk _ _ _ _ _ _ _ _ _ _ _ _ _ _ X hr hz hS ha hf hl))
theorem q_iushr {x y z : Int} (hv : ((Int32.ofInt x).toUInt32 >>> ((Int32.ofInt y).toUInt32 &&& Int32.toUInt32 31)).toInt32 = Int32.ofInt z) (hdg : decode cc pc = .ok (.iushr, 1)) (kk : q_T l K L own cc nL ret d post (pc + 1) lv (vi z :: st) σ) : q_T l K L own cc nL ret d post pc lv (vi y :: vi x :: st) σ := by
  intro p e s m args below meth c H locs ls f f0 sz X hr hz hS ha hf hl
  exact lv_iushr X.1 X.2.1 hdg hv (kk _ _ _ _ _ _ _ _ _ _ _ _ _ _ X hr hz hS ha hf hl)
theorem q_lushr {x y z : Int} (hv : ((Int64.ofInt x).toUInt64 >>> ((Int32.ofInt y).toInt64.toUInt64 &&& Int64.toUInt64 63)).toInt64 = Int64.ofInt z) (hdg : decode cc pc = .ok (.lushr, 1)) (kk : q_T l K L own cc nL ret d post (pc + 1) lv (vl z :: st) σ) : q_T l K L own cc nL ret d post pc lv (vi y :: vl x :: st) σ := by
  intro p e s m args below meth c H locs ls f f0 sz X hr hz hS ha hf hl
  exact lv_lushr X.1 X.2.1 hdg hv (kk _ _ _ _ _ _ _ _ _ _ _ _ _ _ X hr hz hS ha hf hl)
theorem q_lshl {x y z : Int} (hv : Int64.ofInt x <<< ((Int32.ofInt y).toInt64 &&& 63) = Int64.ofInt z) (hdg : decode cc pc = .ok (.lshl, 1)) (kk : q_T l K L own cc nL ret d post (pc + 1) lv (vl z :: st) σ) : q_T l K L own cc nL ret d post pc lv (vi y :: vl x :: st) σ := by
  intro p e s m args below meth c H locs ls f f0 sz X hr hz hS ha hf hl
  exact lv_lshl X.1 X.2.1 hdg hv (kk _ _ _ _ _ _ _ _ _ _ _ _ _ _ X hr hz hS ha hf hl)
theorem q_lshr {x y z : Int} (hv : Int64.ofInt x >>> ((Int32.ofInt y).toInt64 &&& 63) = Int64.ofInt z) (hdg : decode cc pc = .ok (.lshr, 1)) (kk : q_T l K L own cc nL ret d post (pc + 1) lv (vl z :: st) σ) : q_T l K L own cc nL ret d post pc lv (vi y :: vl x :: st) σ := by
  intro p e s m args below meth c H locs ls f f0 sz X hr hz hS ha hf hl
  exact lv_lshr X.1 X.2.1 hdg hv (kk _ _ _ _ _ _ _ _ _ _ _ _ _ _ X hr hz hS ha hf hl)
theorem q_idiv {x y : Int} (hx : -2147483648 ≤ x ∧ x < 2147483648) (hy : -2147483648 ≤ y ∧ y < 2147483648) (h0 : 0 < y) (hdg : decode cc pc = .ok (.idiv, 1)) (kk : q_T l K L own cc nL ret d post (pc + 1) lv (vi (x.tdiv y) :: st) σ) : q_T l K L own cc nL ret d post pc lv (vi y :: vi x :: st) σ := by
  intro p e s m args below meth c H locs ls f f0 sz X hr hz hS ha hf hl
  exact lv_idiv X.1 X.2.1 hdg (q_i_ne hy h0) (q_tp (congrArg Value.int (q_idiv_eq hx hy h0)) (kk _ _ _ _ _ _ _ _ _ _ _ _ _ _ X hr hz hS ha hf hl))
theorem q_ldiv {x y : Int} (hx : -9223372036854775808 ≤ x ∧ x < 9223372036854775808) (hy : -9223372036854775808 ≤ y ∧ y < 9223372036854775808) (h0 : 0 < y) (hdg : decode cc pc = .ok (.ldiv, 1)) (kk : q_T l K L own cc nL ret d post (pc + 1) lv (vl (x.tdiv y) :: st) σ) : q_T l K L own cc nL ret d post pc lv (vl y :: vl x :: st) σ := by
  intro p e s m args below meth c H locs ls f f0 sz X hr hz hS ha hf hl
  exact lv_ldiv X.1 X.2.1 hdg (q_l_ne hy h0) (q_tp (congrArg Value.long (q_ldiv_eq hx hy h0)) (kk _ _ _ _ _ _ _ _ _ _ _ _ _ _ X hr hz hS ha hf hl))
theorem q_irem {x y : Int} (hx : -2147483648 ≤ x ∧ x < 2147483648) (hy : -2147483648 ≤ y ∧ y < 2147483648) (h0 : 0 < y) (hdg : decode cc pc = .ok (.irem, 1)) (kk : q_T l K L own cc nL ret d post (pc + 1) lv (vi (x.tmod y) :: st) σ) : q_T l K L own cc nL ret d post pc lv (vi y :: vi x :: st) σ := by
  intro p e s m args below meth c H locs ls f f0 sz X hr hz hS ha hf hl
  exact lv_irem X.1 X.2.1 hdg (q_i_ne hy h0) (q_tp (congrArg Value.int (q_irem_eq hx hy h0)) (kk _ _ _ _ _ _ _ _ _ _ _ _ _ _ X hr hz hS ha hf hl))
theorem q_lrem {x y : Int} (hx : -9223372036854775808 ≤ x ∧ x < 9223372036854775808) (hy : -9223372036854775808 ≤ y ∧ y < 9223372036854775808) (h0 : 0 < y) (hdg : decode cc pc = .ok (.lrem, 1)) (kk : q_T l K L own cc nL ret d post (pc + 1) lv (vl (x.tmod y) :: st) σ) : q_T l K L own cc nL ret d post pc lv (vl y :: vl x :: st) σ := by
  intro p e s m args below meth c H locs ls f f0 sz X hr hz hS ha hf hl
  exact lv_lrem X.1 X.2.1 hdg (q_l_ne hy h0) (q_tp (congrArg Value.long (q_lrem_eq hx hy h0)) (kk _ _ _ _ _ _ _ _ _ _ _ _ _ _ X hr hz hS ha hf hl))
theorem q_dup {v : Value} (hdg : decode cc pc = .ok (.dup, 1)) (hv : v.category = 1) (kk : q_T l K L own cc nL ret d post (pc + 1) lv (v :: v :: st) σ) : q_T l K L own cc nL ret d post pc lv (v :: st) σ := by
  intro p e s m args below meth c H locs ls f f0 sz X hr hz hS ha hf hl
  exact lv_dup X.1 X.2.1 hdg hv (kk _ _ _ _ _ _ _ _ _ _ _ _ _ _ X hr hz hS ha hf hl)
theorem q_pop {v : Value} (hdg : decode cc pc = .ok (.pop, 1)) (hv : v.category = 1) (kk : q_T l K L own cc nL ret d post (pc + 1) lv st σ) : q_T l K L own cc nL ret d post pc lv (v :: st) σ := by
  intro p e s m args below meth c H locs ls f f0 sz X hr hz hS ha hf hl
  exact lv_pop X.1 X.2.1 hdg hv (kk _ _ _ _ _ _ _ _ _ _ _ _ _ _ X hr hz hS ha hf hl)
theorem q_dup2 {v w : Value} (hdg : decode cc pc = .ok (.dup2, 1)) (hv : v.category = 1) (hw : w.category = 1) (kk : q_T l K L own cc nL ret d post (pc + 1) lv (v :: w :: v :: w :: st) σ) : q_T l K L own cc nL ret d post pc lv (v :: w :: st) σ := by
  intro p e s m args below meth c H locs ls f f0 sz X hr hz hS ha hf hl
  exact lv_dup2_11 X.1 X.2.1 hdg hv hw (kk _ _ _ _ _ _ _ _ _ _ _ _ _ _ X hr hz hS ha hf hl)
theorem q_dupx1 {v w : Value} (hdg : decode cc pc = .ok (.dup_x1, 1)) (hv : v.category = 1) (hw : w.category = 1) (kk : q_T l K L own cc nL ret d post (pc + 1) lv (v :: w :: v :: st) σ) : q_T l K L own cc nL ret d post pc lv (v :: w :: st) σ := by
  intro p e s m args below meth c H locs ls f f0 sz X hr hz hS ha hf hl
  exact lv_dup_x1 X.1 X.2.1 hdg hv hw (kk _ _ _ _ _ _ _ _ _ _ _ _ _ _ X hr hz hS ha hf hl)
theorem q_goto {off : Int} {tgt : Nat} (hdg : decode cc pc = .ok (.goto off, 3)) (ht : (pc : Int) + off = (tgt : Int)) (kk : q_T l K L own cc nL ret d post tgt lv st σ) : q_T l K L own cc nL ret d post pc lv st σ := by
  intro p e s m args below meth c H locs ls f f0 sz X hr hz hS ha hf hl
  exact lv_goto X.1 X.2.1 hdg ht (kk _ _ _ _ _ _ _ _ _ _ _ _ _ _ X hr hz hS ha hf hl)
theorem q_if_eq {x : Int} {off : Int} {tgt : Nat} (hx : -2147483648 ≤ x ∧ x < 2147483648) (hdg : decode cc pc = .ok (.ifCond .eq off, 3)) (ht : (pc : Int) + off = (tgt : Int)) (kt : x = 0 → q_T l K L own cc nL ret d post tgt lv st σ) (kf : ¬ x = 0 → q_T l K L own cc nL ret d post (pc + 3) lv st σ) : q_T l K L own cc nL ret d post pc lv (vi x :: st) σ := by
  intro p e s m args below meth c H locs ls f f0 sz X hr hz hS ha hf hl
  exact lv_if_eq X.1 X.2.1 hdg ht (fun h => kt ((q_eq hx (y := 0) ⟨by decide, by decide⟩).mp h) _ _ _ _ _ _ _ _ _ _ _ _ _ _ X hr hz hS ha hf hl) (fun h => kf (fun q => h ((q_eq hx (y := 0) ⟨by decide, by decide⟩).mpr q)) _ _ _ _ _ _ _ _ _ _ _ _ _ _ X hr hz hS ha hf hl)
theorem q_icmp_eq {x y : Int} {off : Int} {tgt : Nat} (hx : -2147483648 ≤ x ∧ x < 2147483648) (hy : -2147483648 ≤ y ∧ y < 2147483648) (hdg : decode cc pc = .ok (.if_icmp .eq off, 3)) (ht : (pc : Int) + off = (tgt : Int)) (kt : x = y → q_T l K L own cc nL ret d post tgt lv st σ) (kf : ¬ x = y → q_T l K L own cc nL ret d post (pc + 3) lv st σ) : q_T l K L own cc nL ret d post pc lv (vi y :: vi x :: st) σ := by
  intro p e s m args below meth c H locs ls f f0 sz X hr hz hS ha hf hl
  exact lv_icmp_eq X.1 X.2.1 hdg ht (fun h => kt ((q_eq hx hy).mp h) _ _ _ _ _ _ _ _ _ _ _ _ _ _ X hr hz hS ha hf hl) (fun h => kf (fun q => h ((q_eq hx hy).mpr q)) _ _ _ _ _ _ _ _ _ _ _ _ _ _ X hr hz hS ha hf hl)
theorem q_if_ne {x : Int} {off : Int} {tgt : Nat} (hx : -2147483648 ≤ x ∧ x < 2147483648) (hdg : decode cc pc = .ok (.ifCond .ne off, 3)) (ht : (pc : Int) + off = (tgt : Int)) (kt : ¬ x = 0 → q_T l K L own cc nL ret d post tgt lv st σ) (kf : x = 0 → q_T l K L own cc nL ret d post (pc + 3) lv st σ) : q_T l K L own cc nL ret d post pc lv (vi x :: st) σ := by
  intro p e s m args below meth c H locs ls f f0 sz X hr hz hS ha hf hl
  exact lv_if_ne X.1 X.2.1 hdg ht (fun h => kt (fun q => h ((q_eq hx (y := 0) ⟨by decide, by decide⟩).mpr q)) _ _ _ _ _ _ _ _ _ _ _ _ _ _ X hr hz hS ha hf hl) (fun h => kf ((q_eq hx (y := 0) ⟨by decide, by decide⟩).mp h) _ _ _ _ _ _ _ _ _ _ _ _ _ _ X hr hz hS ha hf hl)
theorem q_icmp_ne {x y : Int} {off : Int} {tgt : Nat} (hx : -2147483648 ≤ x ∧ x < 2147483648) (hy : -2147483648 ≤ y ∧ y < 2147483648) (hdg : decode cc pc = .ok (.if_icmp .ne off, 3)) (ht : (pc : Int) + off = (tgt : Int)) (kt : ¬ x = y → q_T l K L own cc nL ret d post tgt lv st σ) (kf : x = y → q_T l K L own cc nL ret d post (pc + 3) lv st σ) : q_T l K L own cc nL ret d post pc lv (vi y :: vi x :: st) σ := by
  intro p e s m args below meth c H locs ls f f0 sz X hr hz hS ha hf hl
  exact lv_icmp_ne X.1 X.2.1 hdg ht (fun h => kt (fun q => h ((q_eq hx hy).mpr q)) _ _ _ _ _ _ _ _ _ _ _ _ _ _ X hr hz hS ha hf hl) (fun h => kf ((q_eq hx hy).mp h) _ _ _ _ _ _ _ _ _ _ _ _ _ _ X hr hz hS ha hf hl)
theorem q_if_lt {x : Int} {off : Int} {tgt : Nat} (hx : -2147483648 ≤ x ∧ x < 2147483648) (hdg : decode cc pc = .ok (.ifCond .lt off, 3)) (ht : (pc : Int) + off = (tgt : Int)) (kt : x < 0 → q_T l K L own cc nL ret d post tgt lv st σ) (kf : ¬ x < 0 → q_T l K L own cc nL ret d post (pc + 3) lv st σ) : q_T l K L own cc nL ret d post pc lv (vi x :: st) σ := by
  intro p e s m args below meth c H locs ls f f0 sz X hr hz hS ha hf hl
  exact lv_if_lt X.1 X.2.1 hdg ht (fun h => kt ((q_lt hx (y := 0) ⟨by decide, by decide⟩).mp h) _ _ _ _ _ _ _ _ _ _ _ _ _ _ X hr hz hS ha hf hl) (fun h => kf (fun q => h ((q_lt hx (y := 0) ⟨by decide, by decide⟩).mpr q)) _ _ _ _ _ _ _ _ _ _ _ _ _ _ X hr hz hS ha hf hl)
theorem q_icmp_lt {x y : Int} {off : Int} {tgt : Nat} (hx : -2147483648 ≤ x ∧ x < 2147483648) (hy : -2147483648 ≤ y ∧ y < 2147483648) (hdg : decode cc pc = .ok (.if_icmp .lt off, 3)) (ht : (pc : Int) + off = (tgt : Int)) (kt : x < y → q_T l K L own cc nL ret d post tgt lv st σ) (kf : ¬ x < y → q_T l K L own cc nL ret d post (pc + 3) lv st σ) : q_T l K L own cc nL ret d post pc lv (vi y :: vi x :: st) σ := by
  intro p e s m args below meth c H locs ls f f0 sz X hr hz hS ha hf hl
  exact lv_icmp_lt X.1 X.2.1 hdg ht (fun h => kt ((q_lt hx hy).mp h) _ _ _ _ _ _ _ _ _ _ _ _ _ _ X hr hz hS ha hf hl) (fun h => kf (fun q => h ((q_lt hx hy).mpr q)) _ _ _ _ _ _ _ _ _ _ _ _ _ _ X hr hz hS ha hf hl)
theorem q_if_ge {x : Int} {off : Int} {tgt : Nat} (hx : -2147483648 ≤ x ∧ x < 2147483648) (hdg : decode cc pc = .ok (.ifCond .ge off, 3)) (ht : (pc : Int) + off = (tgt : Int)) (kt : 0 ≤ x → q_T l K L own cc nL ret d post tgt lv st σ) (kf : ¬ 0 ≤ x → q_T l K L own cc nL ret d post (pc + 3) lv st σ) : q_T l K L own cc nL ret d post pc lv (vi x :: st) σ := by
  intro p e s m args below meth c H locs ls f f0 sz X hr hz hS ha hf hl
  exact lv_if_ge X.1 X.2.1 hdg ht (fun h => kt ((q_le (x := 0) ⟨by decide, by decide⟩ hx).mp h) _ _ _ _ _ _ _ _ _ _ _ _ _ _ X hr hz hS ha hf hl) (fun h => kf (fun q => h ((q_le (x := 0) ⟨by decide, by decide⟩ hx).mpr q)) _ _ _ _ _ _ _ _ _ _ _ _ _ _ X hr hz hS ha hf hl)
theorem q_icmp_ge {x y : Int} {off : Int} {tgt : Nat} (hx : -2147483648 ≤ x ∧ x < 2147483648) (hy : -2147483648 ≤ y ∧ y < 2147483648) (hdg : decode cc pc = .ok (.if_icmp .ge off, 3)) (ht : (pc : Int) + off = (tgt : Int)) (kt : y ≤ x → q_T l K L own cc nL ret d post tgt lv st σ) (kf : ¬ y ≤ x → q_T l K L own cc nL ret d post (pc + 3) lv st σ) : q_T l K L own cc nL ret d post pc lv (vi y :: vi x :: st) σ := by
  intro p e s m args below meth c H locs ls f f0 sz X hr hz hS ha hf hl
  exact lv_icmp_ge X.1 X.2.1 hdg ht (fun h => kt ((q_le hy hx).mp h) _ _ _ _ _ _ _ _ _ _ _ _ _ _ X hr hz hS ha hf hl) (fun h => kf (fun q => h ((q_le hy hx).mpr q)) _ _ _ _ _ _ _ _ _ _ _ _ _ _ X hr hz hS ha hf hl)
theorem q_if_gt {x : Int} {off : Int} {tgt : Nat} (hx : -2147483648 ≤ x ∧ x < 2147483648) (hdg : decode cc pc = .ok (.ifCond .gt off, 3)) (ht : (pc : Int) + off = (tgt : Int)) (kt : 0 < x → q_T l K L own cc nL ret d post tgt lv st σ) (kf : ¬ 0 < x → q_T l K L own cc nL ret d post (pc + 3) lv st σ) : q_T l K L own cc nL ret d post pc lv (vi x :: st) σ := by
  intro p e s m args below meth c H locs ls f f0 sz X hr hz hS ha hf hl
  exact lv_if_gt X.1 X.2.1 hdg ht (fun h => kt ((q_lt (x := 0) ⟨by decide, by decide⟩ hx).mp h) _ _ _ _ _ _ _ _ _ _ _ _ _ _ X hr hz hS ha hf hl) (fun h => kf (fun q => h ((q_lt (x := 0) ⟨by decide, by decide⟩ hx).mpr q)) _ _ _ _ _ _ _ _ _ _ _ _ _ _ X hr hz hS ha hf hl)
theorem q_icmp_gt {x y : Int} {off : Int} {tgt : Nat} (hx : -2147483648 ≤ x ∧ x < 2147483648) (hy : -2147483648 ≤ y ∧ y < 2147483648) (hdg : decode cc pc = .ok (.if_icmp .gt off, 3)) (ht : (pc : Int) + off = (tgt : Int)) (kt : y < x → q_T l K L own cc nL ret d post tgt lv st σ) (kf : ¬ y < x → q_T l K L own cc nL ret d post (pc + 3) lv st σ) : q_T l K L own cc nL ret d post pc lv (vi y :: vi x :: st) σ := by
  intro p e s m args below meth c H locs ls f f0 sz X hr hz hS ha hf hl
  exact lv_icmp_gt X.1 X.2.1 hdg ht (fun h => kt ((q_lt hy hx).mp h) _ _ _ _ _ _ _ _ _ _ _ _ _ _ X hr hz hS ha hf hl) (fun h => kf (fun q => h ((q_lt hy hx).mpr q)) _ _ _ _ _ _ _ _ _ _ _ _ _ _ X hr hz hS ha hf hl)
theorem q_if_le {x : Int} {off : Int} {tgt : Nat} (hx : -2147483648 ≤ x ∧ x < 2147483648) (hdg : decode cc pc = .ok (.ifCond .le off, 3)) (ht : (pc : Int) + off = (tgt : Int)) (kt : x ≤ 0 → q_T l K L own cc nL ret d post tgt lv st σ) (kf : ¬ x ≤ 0 → q_T l K L own cc nL ret d post (pc + 3) lv st σ) : q_T l K L own cc nL ret d post pc lv (vi x :: st) σ := by
  intro p e s m args below meth c H locs ls f f0 sz X hr hz hS ha hf hl
  exact lv_if_le X.1 X.2.1 hdg ht (fun h => kt ((q_le hx (y := 0) ⟨by decide, by decide⟩).mp h) _ _ _ _ _ _ _ _ _ _ _ _ _ _ X hr hz hS ha hf hl) (fun h => kf (fun q => h ((q_le hx (y := 0) ⟨by decide, by decide⟩).mpr q)) _ _ _ _ _ _ _ _ _ _ _ _ _ _ X hr hz hS ha hf hl)
theorem q_icmp_le {x y : Int} {off : Int} {tgt : Nat} (hx : -2147483648 ≤ x ∧ x < 2147483648) (hy : -2147483648 ≤ y ∧ y < 2147483648) (hdg : decode cc pc = .ok (.if_icmp .le off, 3)) (ht : (pc : Int) + off = (tgt : Int)) (kt : x ≤ y → q_T l K L own cc nL ret d post tgt lv st σ) (kf : ¬ x ≤ y → q_T l K L own cc nL ret d post (pc + 3) lv st σ) : q_T l K L own cc nL ret d post pc lv (vi y :: vi x :: st) σ := by
  intro p e s m args below meth c H locs ls f f0 sz X hr hz hS ha hf hl
  exact lv_icmp_le X.1 X.2.1 hdg ht (fun h => kt ((q_le hx hy).mp h) _ _ _ _ _ _ _ _ _ _ _ _ _ _ X hr hz hS ha hf hl) (fun h => kf (fun q => h ((q_le hx hy).mpr q)) _ _ _ _ _ _ _ _ _ _ _ _ _ _ X hr hz hS ha hf hl)
theorem q_lcmp_eq {x y : Int} {off : Int} {tgt : Nat} (hx : -9223372036854775808 ≤ x ∧ x < 9223372036854775808) (hy : -9223372036854775808 ≤ y ∧ y < 9223372036854775808) (hdg : decode cc pc = .ok (.lcmp, 1)) (hdg2 : decode cc (pc + 1) = .ok (.ifCond .eq off, 3)) (ht : ((pc + 1 : Nat) : Int) + off = (tgt : Int)) (kt : x = y → q_T l K L own cc nL ret d post tgt lv st σ) (kf : ¬ x = y → q_T l K L own cc nL ret d post (pc + 1 + 3) lv st σ) : q_T l K L own cc nL ret d post pc lv (vl y :: vl x :: st) σ := by
  intro p e s m args below meth c H locs ls f f0 sz X hr hz hS ha hf hl
  refine W.lcmp X.1 X.2.1 hdg ?_
  exact lv_if_eq X.1 X.2.1 hdg2 ht (fun h => kt ((q_leq hx hy).mp ((lg_cmp_eq _ _).mp h)) _ _ _ _ _ _ _ _ _ _ _ _ _ _ X hr hz hS ha hf hl) (fun h => kf (fun q => h ((lg_cmp_eq _ _).mpr ((q_leq hx hy).mpr q))) _ _ _ _ _ _ _ _ _ _ _ _ _ _ X hr hz hS ha hf hl)
theorem q_lcmp_ne {x y : Int} {off : Int} {tgt : Nat} (hx : -9223372036854775808 ≤ x ∧ x < 9223372036854775808) (hy : -9223372036854775808 ≤ y ∧ y < 9223372036854775808) (hdg : decode cc pc = .ok (.lcmp, 1)) (hdg2 : decode cc (pc + 1) = .ok (.ifCond .ne off, 3)) (ht : ((pc + 1 : Nat) : Int) + off = (tgt : Int)) (kt : ¬ x = y → q_T l K L own cc nL ret d post tgt lv st σ) (kf : x = y → q_T l K L own cc nL ret d post (pc + 1 + 3) lv st σ) : q_T l K L own cc nL ret d post pc lv (vl y :: vl x :: st) σ := by
  intro p e s m args below meth c H locs ls f f0 sz X hr hz hS ha hf hl
  refine W.lcmp X.1 X.2.1 hdg ?_
  exact lv_if_ne X.1 X.2.1 hdg2 ht (fun h => kt (fun q => h ((lg_cmp_eq _ _).mpr ((q_leq hx hy).mpr q))) _ _ _ _ _ _ _ _ _ _ _ _ _ _ X hr hz hS ha hf hl) (fun h => kf ((q_leq hx hy).mp ((lg_cmp_eq _ _).mp h)) _ _ _ _ _ _ _ _ _ _ _ _ _ _ X hr hz hS ha hf hl)
theorem q_lcmp_lt {x y : Int} {off : Int} {tgt : Nat} (hx : -9223372036854775808 ≤ x ∧ x < 9223372036854775808) (hy : -9223372036854775808 ≤ y ∧ y < 9223372036854775808) (hdg : decode cc pc = .ok (.lcmp, 1)) (hdg2 : decode cc (pc + 1) = .ok (.ifCond .lt off, 3)) (ht : ((pc + 1 : Nat) : Int) + off = (tgt : Int)) (kt : x < y → q_T l K L own cc nL ret d post tgt lv st σ) (kf : ¬ x < y → q_T l K L own cc nL ret d post (pc + 1 + 3) lv st σ) : q_T l K L own cc nL ret d post pc lv (vl y :: vl x :: st) σ := by
  intro p e s m args below meth c H locs ls f f0 sz X hr hz hS ha hf hl
  refine W.lcmp X.1 X.2.1 hdg ?_
  exact lv_if_lt X.1 X.2.1 hdg2 ht (fun h => kt ((q_llt hx hy).mp ((lg_cmp_lt _ _).mp h)) _ _ _ _ _ _ _ _ _ _ _ _ _ _ X hr hz hS ha hf hl) (fun h => kf (fun q => h ((lg_cmp_lt _ _).mpr ((q_llt hx hy).mpr q))) _ _ _ _ _ _ _ _ _ _ _ _ _ _ X hr hz hS ha hf hl)
theorem q_lcmp_ge {x y : Int} {off : Int} {tgt : Nat} (hx : -9223372036854775808 ≤ x ∧ x < 9223372036854775808) (hy : -9223372036854775808 ≤ y ∧ y < 9223372036854775808) (hdg : decode cc pc = .ok (.lcmp, 1)) (hdg2 : decode cc (pc + 1) = .ok (.ifCond .ge off, 3)) (ht : ((pc + 1 : Nat) : Int) + off = (tgt : Int)) (kt : y ≤ x → q_T l K L own cc nL ret d post tgt lv st σ) (kf : ¬ y ≤ x → q_T l K L own cc nL ret d post (pc + 1 + 3) lv st σ) : q_T l K L own cc nL ret d post pc lv (vl y :: vl x :: st) σ := by
  intro p e s m args below meth c H locs ls f f0 sz X hr hz hS ha hf hl
  refine W.lcmp X.1 X.2.1 hdg ?_
  exact lv_if_ge X.1 X.2.1 hdg2 ht (fun h => kt ((q_lle hy hx).mp ((lg_cmp_ge _ _).mp h)) _ _ _ _ _ _ _ _ _ _ _ _ _ _ X hr hz hS ha hf hl) (fun h => kf (fun q => h ((lg_cmp_ge _ _).mpr ((q_lle hy hx).mpr q))) _ _ _ _ _ _ _ _ _ _ _ _ _ _ X hr hz hS ha hf hl)
theorem q_lcmp_gt {x y : Int} {off : Int} {tgt : Nat} (hx : -9223372036854775808 ≤ x ∧ x < 9223372036854775808) (hy : -9223372036854775808 ≤ y ∧ y < 9223372036854775808) (hdg : decode cc pc = .ok (.lcmp, 1)) (hdg2 : decode cc (pc + 1) = .ok (.ifCond .gt off, 3)) (ht : ((pc + 1 : Nat) : Int) + off = (tgt : Int)) (kt : y < x → q_T l K L own cc nL ret d post tgt lv st σ) (kf : ¬ y < x → q_T l K L own cc nL ret d post (pc + 1 + 3) lv st σ) : q_T l K L own cc nL ret d post pc lv (vl y :: vl x :: st) σ := by
  intro p e s m args below meth c H locs ls f f0 sz X hr hz hS ha hf hl
  refine W.lcmp X.1 X.2.1 hdg ?_
  exact lv_if_gt X.1 X.2.1 hdg2 ht (fun h => kt ((q_llt hy hx).mp ((lg_cmp_gt _ _).mp h)) _ _ _ _ _ _ _ _ _ _ _ _ _ _ X hr hz hS ha hf hl) (fun h => kf (fun q => h ((lg_cmp_gt _ _).mpr ((q_llt hy hx).mpr q))) _ _ _ _ _ _ _ _ _ _ _ _ _ _ X hr hz hS ha hf hl)
theorem q_lcmp_le {x y : Int} {off : Int} {tgt : Nat} (hx : -9223372036854775808 ≤ x ∧ x < 9223372036854775808) (hy : -9223372036854775808 ≤ y ∧ y < 9223372036854775808) (hdg : decode cc pc = .ok (.lcmp, 1)) (hdg2 : decode cc (pc + 1) = .ok (.ifCond .le off, 3)) (ht : ((pc + 1 : Nat) : Int) + off = (tgt : Int)) (kt : x ≤ y → q_T l K L own cc nL ret d post tgt lv st σ) (kf : ¬ x ≤ y → q_T l K L own cc nL ret d post (pc + 1 + 3) lv st σ) : q_T l K L own cc nL ret d post pc lv (vl y :: vl x :: st) σ := by
  intro p e s m args below meth c H locs ls f f0 sz X hr hz hS ha hf hl
  refine W.lcmp X.1 X.2.1 hdg ?_
  exact lv_if_le X.1 X.2.1 hdg2 ht (fun h => kt ((q_lle hx hy).mp ((lg_cmp_le _ _).mp h)) _ _ _ _ _ _ _ _ _ _ _ _ _ _ X hr hz hS ha hf hl) (fun h => kf (fun q => h ((lg_cmp_le _ _).mpr ((q_lle hx hy).mpr q))) _ _ _ _ _ _ _ _ _ _ _ _ _ _ X hr hz hS ha hf hl)
theorem q_gi {a ci N : Nat} {C ref : String} {Tb : u_T} {ty0 : Nat → FieldType} {fs : List (Option Nat)} (hL : L a = some (.inl (ci, fs))) (hC : pw_cl ci C Tb N ty0) (k : Nat) (hk : k < N) {index : Nat} (hlk : Cond.fieldLink own index ref (Tb k).2.1 (Tb k).2.2.1 ∈ lw_G) (href : ref = (Tb k).1) (hv : fs[k]? = some none) (hdg : decode cc pc = .ok (.getfield index, 3)) (kk : q_T l K L own cc nL ret d post (pc + 3) lv (vi (σ a k) :: st) σ) : q_T l K L own cc nL ret d post pc lv (.ref a :: st) σ := by
  intro p e s m args below meth c H locs ls f f0 sz X hr hz hS ha hf hl
  refine pw_get X hS (ha a _ hL) hC k hk hlk href (v := vi (σ a k)) ?_ hdg (kk _ _ _ _ _ _ _ _ _ _ _ _ _ _ X hr hz hS ha hf hl)
  simpa using q_fl_int (σ a) fs 0 k hv
theorem q_gr {a ci N b : Nat} {C ref : String} {Tb : u_T} {ty0 : Nat → FieldType} {fs : List (Option Nat)} (hL : L a = some (.inl (ci, fs))) (hC : pw_cl ci C Tb N ty0) (k : Nat) (hk : k < N) {index : Nat} (hlk : Cond.fieldLink own index ref (Tb k).2.1 (Tb k).2.2.1 ∈ lw_G) (href : ref = (Tb k).1) (hv : fs[k]? = some (some b)) (hdg : decode cc pc = .ok (.getfield index, 3)) (kk : q_T l K L own cc nL ret d post (pc + 3) lv (.ref b :: st) σ) : q_T l K L own cc nL ret d post pc lv (.ref a :: st) σ := by
  intro p e s m args below meth c H locs ls f f0 sz X hr hz hS ha hf hl
  exact pw_get X hS (ha a _ hL) hC k hk hlk href (q_fl_ref (σ a) fs 0 k hv) hdg (kk _ _ _ _ _ _ _ _ _ _ _ _ _ _ X hr hz hS ha hf hl)
theorem q_L_ne {a q : Nat} {x : (Nat × List (Option Nat)) ⊕ (Nat × Nat × Option (Nat → Option Nat))} (hL : L a = some x) (hq : L q = none) : q ≠ a := fun h => by rw [h, hL] at hq; cases hq
theorem q_pi {a ci N : Nat} {C ref : String} {Tb : u_T} {ty0 : Nat → FieldType} {fs : List (Option Nat)} {z : Int} (hL : L a = some (.inl (ci, fs))) (hC : pw_cl ci C Tb N ty0) (k : Nat) (hk : k < N) {index : Nat} (hlk : Cond.fieldLink own index ref (Tb k).2.1 (Tb k).2.2.1 ∈ lw_G) (href : ref = (Tb k).1) (hfin : (Tb k).2.2.2 = false) (hn : narrow (ty0 k) (vi z) = vi z) (hfit : fits (ty0 k) (vi z) = true) (hv : fs[k]? = some none) (hdg : decode cc pc = .ok (.putfield index, 3)) (kk : q_T l K L own cc nL ret d post (pc + 3) lv st (q_up σ a k z)) : q_T l K L own cc nL ret d post pc lv (vi z :: .ref a :: st) σ := by
  intro p e s m args below meth c H locs ls f f0 sz X hr hz hS ha hf hl
  refine pw_put X hS (ha a _ hL) hC k hk hlk href hfin hn hfit (by rw [q_fl_len]; exact (List.getElem?_eq_some_iff.mp hv).1) hdg (fun H1 lc1 hy hS1 => ?_)
  exact kk _ _ _ _ _ _ _ _ _ _ _ _ _ _ X hr (hy.trans hz) hS1 (ha.put hL hv z) (fun q hq => (pw_up_ne (q_L_ne hL hq)).trans (hf q hq)) hl
theorem q_in {i : Int} {k n : Nat} (hi : i = (k : Int)) (hk : k < n) (hn : n < 2147483648) : vp_in (Int32.ofInt i) n ∧ (Int32.ofInt i).toNatClampNeg = k := by
  subst hi
  exact ⟨vp_in_nI hk (by omega), nI_clamp (by omega)⟩
theorem q_ial (k : Nat) {a n : Nat} {i : Int} (hL : L a = some (.inr (0, n, none))) (hi : i = (k : Int)) (hk : k < n) (hn : n < 2147483648) (hdg : decode cc pc = .ok (.iaload, 1)) (kk : q_T l K L own cc nL ret d post (pc + 1) lv (vi (σ a k) :: st) σ) : q_T l K L own cc nL ret d post pc lv (vi i :: .ref a :: st) σ := by
  intro p e s m args below meth c H locs ls f f0 sz X hr hz hS ha hf hl
  obtain ⟨h1, h2⟩ := q_in hi hk hn
  refine pw_ild X hS (ha a _ hL) h1 hdg ?_
  rw [h2]
  exact kk _ _ _ _ _ _ _ _ _ _ _ _ _ _ X hr hz hS ha hf hl
theorem q_zal (k : Nat) {a n : Nat} {i : Int} (hL : L a = some (.inr (2, n, none))) (hi : i = (k : Int)) (hk : k < n) (hn : n < 2147483648) (hdg : decode cc pc = .ok (.baload, 1)) (kk : q_T l K L own cc nL ret d post (pc + 1) lv (vi (σ a k) :: st) σ) : q_T l K L own cc nL ret d post pc lv (vi i :: .ref a :: st) σ := by
  intro p e s m args below meth c H locs ls f f0 sz X hr hz hS ha hf hl
  obtain ⟨h1, h2⟩ := q_in hi hk hn
  refine pw_zld X hS (ha a _ hL) h1 hdg ?_
  rw [h2]
  exact kk _ _ _ _ _ _ _ _ _ _ _ _ _ _ X hr hz hS ha hf hl
theorem q_bal (k : Nat) {a n : Nat} {i : Int} (hL : L a = some (.inr (3, n, none))) (hi : i = (k : Int)) (hk : k < n) (hn : n < 2147483648) (hdg : decode cc pc = .ok (.baload, 1)) (kk : q_T l K L own cc nL ret d post (pc + 1) lv (vi (σ a k) :: st) σ) : q_T l K L own cc nL ret d post pc lv (vi i :: .ref a :: st) σ := by
  intro p e s m args below meth c H locs ls f f0 sz X hr hz hS ha hf hl
  obtain ⟨h1, h2⟩ := q_in hi hk hn
  refine pw_bld X hS (ha a _ hL) h1 hdg ?_
  rw [h2]
  exact kk _ _ _ _ _ _ _ _ _ _ _ _ _ _ X hr hz hS ha hf hl
theorem q_ias (k : Nat) {a n : Nat} {i z : Int} (hL : L a = some (.inr (0, n, none))) (hi : i = (k : Int)) (hk : k < n) (hn : n < 2147483648) (hdg : decode cc pc = .ok (.iastore, 1)) (kk : q_T l K L own cc nL ret d post (pc + 1) lv st (q_up σ a k z)) : q_T l K L own cc nL ret d post pc lv (vi z :: vi i :: .ref a :: st) σ := by
  intro p e s m args below meth c H locs ls f f0 sz X hr hz hS ha hf hl
  obtain ⟨h1, h2⟩ := q_in hi hk hn
  refine pw_ist X hS (ha a _ hL) h1 hdg (fun H1 lc1 hy hS1 => ?_)
  rw [h2] at hS1
  exact kk _ _ _ _ _ _ _ _ _ _ _ _ _ _ X hr (hy.trans hz) hS1 (ha.set hL k z) (fun q hq => (pw_up_ne (q_L_ne hL hq)).trans (hf q hq)) hl
theorem q_aal (k t : Nat) {a n b : Nat} {i : Int} {C : String} {g : Nat → Option Nat} (ht : (pw_tys (pE K))[t]? = some (pE K t, .object C)) (hL : L a = some (.inr (t, n, some g))) (hi : i = (k : Int)) (hk : k < n) (hn : n < 2147483648) (hg : g k = some b) (hdg : decode cc pc = .ok (.aaload, 1)) (kk : q_T l K L own cc nL ret d post (pc + 1) lv (.ref b :: st) σ) : q_T l K L own cc nL ret d post pc lv (vi i :: .ref a :: st) σ := by
  intro p e s m args below meth c H locs ls f f0 sz X hr hz hS ha hf hl
  obtain ⟨h1, h2⟩ := q_in hi hk hn
  exact pw_ald X hS t ht (ha a _ hL) h1 (b := b) (by rw [h2]; exact hg) hdg (kk _ _ _ _ _ _ _ _ _ _ _ _ _ _ X hr hz hS ha hf hl)
theorem q_len (t : Nat) {a n : Nat} {ty : FieldType} {g : Option (Nat → Option Nat)} (ht : (pw_tys (pE K))[t]? = some (pE K t, ty)) (hL : L a = some (.inr (t, n, g))) (hdg : decode cc pc = .ok (.arraylength, 1)) (kk : q_T l K L own cc nL ret d post (pc + 1) lv (vi (n : Int) :: st) σ) : q_T l K L own cc nL ret d post pc lv (.ref a :: st) σ := by
  intro p e s m args below meth c H locs ls f f0 sz X hr hz hS ha hf hl
  cases g with
  | none => exact pw_len X hS t ht (ha a _ hL) (v := Int32.ofInt (n : Int)) rfl hdg (kk _ _ _ _ _ _ _ _ _ _ _ _ _ _ X hr hz hS ha hf hl)
  | some g => exact pw_len X hS t ht (ha a _ hL) (v := Int32.ofInt (n : Int)) rfl hdg (kk _ _ _ _ _ _ _ _ _ _ _ _ _ _ X hr hz hS ha hf hl)
theorem q_callV {y : MethodName} {b : ByteArray} {nL' index a ci N : Nat} {As rest : List Value} {ret' : Option FieldType} {d' : Nat} {post' : Option Value → q_S → Prop} {C : String} {Tb : u_T} {fs : List (Option Nat)} (hM : q_C l K L y b nL' ret' d' (.ref a :: As) σ post') (hcd : Cond.code y b nL' ret' ∈ lw_G) (hini : Cond.initialized y.cls ∈ lw_G) (hml : Cond.methodLink own index y ∈ lw_G) (him : Cond.instanceMethod y ∈ lw_G) (hse : Cond.selects C y y ∈ lw_G) (hL : L a = some (.inl (ci, fs))) (hc : cls[ci]? = some (C, Tb, N)) (hd : y.cls ≠ "java/lang/invoke/MethodHandle" ∧ y.cls ≠ "java/lang/invoke/VarHandle" ∧ (parseMethodDescriptor y.desc).map (fun d => d.parameters.length) = some As.length) (hst : st = As.reverse ++ .ref a :: rest) (hrest : (rest.map fun v => v.category).sum ≤ 8) (hdg : decode cc pc = .ok (.invokevirtual index, 3)) (hd1 : d' + 1 ≤ d) (hd2 : nL' ≤ 45)
    (kk : ∀ (v : Option Value) (σ' : q_S), post' v σ' → q_T l K L own cc nL ret d post (pc + 3) lv (v.toList ++ rest) σ') : q_T l K L own cc nL ret d post pc lv st σ := by
  intro p e s m args below meth c H locs ls f f0 sz X hr hz hS ha hf hl
  refine pw_callV X hS (As := As) (rest := rest) (hM f sz ha) hz hcd hini hml him hse (ha a _ hL) hc hd hst hl.1 hrest hdg ⟨hd1, by show 8 + (nL' + 11) + 64 * d' ≤ 64 * d; omega⟩ ⟨Nat.le_refl _, Nat.le_refl _⟩ (fun v f' H1 lc1 hp hS1 => ?_)
  obtain ⟨h1, σ', h2, h3, h4⟩ := hp
  exact kk v σ' h4 _ _ _ _ _ _ _ _ _ _ _ _ _ _ X hr h1 hS1 h2 (fun q hq => (h3 q hq).trans (hf q hq)) hl
theorem q_callS {y : MethodName} {b : ByteArray} {nL' index : Nat} {As rest : List Value} {ret' : Option FieldType} {d' : Nat} {post' : Option Value → q_S → Prop} (hM : q_C l K L y b nL' ret' d' As σ post') (hcd : Cond.code y b nL' ret' ∈ lw_G) (hini : Cond.initialized y.cls ∈ lw_G) (hml : Cond.methodLink own index y ∈ lw_G) (hss : Cond.static y ∈ lw_G) (hd : y.cls ≠ "java/lang/invoke/MethodHandle" ∧ y.cls ≠ "java/lang/invoke/VarHandle" ∧ (parseMethodDescriptor y.desc).map (fun d => d.parameters.length) = some As.length) (hst : st = As.reverse ++ rest) (hrest : (rest.map fun v => v.category).sum ≤ 8) (hdg : decode cc pc = .ok (.invokestatic index, 3)) (hd1 : d' + 1 ≤ d) (hd2 : nL' ≤ 45)
    (kk : ∀ (v : Option Value) (σ' : q_S), post' v σ' → q_T l K L own cc nL ret d post (pc + 3) lv (v.toList ++ rest) σ') : q_T l K L own cc nL ret d post pc lv st σ := by
  intro p e s m args below meth c H locs ls f f0 sz X hr hz hS ha hf hl
  refine pw_callS X hS (As := As) (rest := rest) (hM f sz ha) hz hcd hini hml hss hd hst hl.1 hrest hdg ⟨hd1, by show 8 + (nL' + 11) + 64 * d' ≤ 64 * d; omega⟩ ⟨Nat.le_refl _, Nat.le_refl _⟩ (fun v f' H1 lc1 hp hS1 => ?_)
  obtain ⟨h1, σ', h2, h3, h4⟩ := hp
  exact kk v σ' h4 _ _ _ _ _ _ _ _ _ _ _ _ _ _ X hr h1 hS1 h2 (fun q hq => (h3 q hq).trans (hf q hq)) hl
theorem q_mmin {x y : Int} {index : Nat} (hx : -2147483648 ≤ x ∧ x < 2147483648) (hy : -2147483648 ≤ y ∧ y < 2147483648) (hml : Cond.methodLink own index Lib.Math.min.name ∈ lw_G) (hdg : decode cc pc = .ok (.invokestatic index, 3)) (h1 : 1 ≤ d) (hrest : (st.map fun v => v.category).sum ≤ 8) (kk : q_T l K L own cc nL ret d post (pc + 3) lv (vi (min x y) :: st) σ) : q_T l K L own cc nL ret d post pc lv (vi y :: vi x :: st) σ := by
  intro p e s m args below meth c H locs ls f f0 sz X hr hz hS ha hf hl
  refine pw_mmin X hl.1 hml hdg ⟨h1, by show _ ≤ 64 * d; omega⟩ ⟨Nat.le_refl _, Nat.le_refl _⟩ (q_tp (congrArg Value.int ?_) (kk _ _ _ _ _ _ _ _ _ _ _ _ _ _ X hr hz hS ha hf hl))
  have h2 := q_lt hy hx
  split
  · rename_i h; have h3 := h2.mp h; rw [show min x y = y from Int.min_eq_right (by omega)]
  · rename_i h; have h3 : ¬ _ := fun q => h (h2.mpr q); rw [show min x y = x from Int.min_eq_left (by omega)]
theorem q_mmax {x y : Int} {index : Nat} (hx : -2147483648 ≤ x ∧ x < 2147483648) (hy : -2147483648 ≤ y ∧ y < 2147483648) (hml : Cond.methodLink own index Lib.Math.max.name ∈ lw_G) (hdg : decode cc pc = .ok (.invokestatic index, 3)) (h1 : 1 ≤ d) (hrest : (st.map fun v => v.category).sum ≤ 8) (kk : q_T l K L own cc nL ret d post (pc + 3) lv (vi (max x y) :: st) σ) : q_T l K L own cc nL ret d post pc lv (vi y :: vi x :: st) σ := by
  intro p e s m args below meth c H locs ls f f0 sz X hr hz hS ha hf hl
  refine pw_mmax X hl.1 hml hdg ⟨h1, by show _ ≤ 64 * d; omega⟩ ⟨Nat.le_refl _, Nat.le_refl _⟩ (q_tp (congrArg Value.int ?_) (kk _ _ _ _ _ _ _ _ _ _ _ _ _ _ X hr hz hS ha hf hl))
  have h2 := q_lt hx hy
  split
  · rename_i h; have h3 := h2.mp h; rw [show max x y = y from Int.max_eq_right (by omega)]
  · rename_i h; have h3 : ¬ _ := fun q => h (h2.mpr q); rw [show max x y = x from Int.max_eq_left (by omega)]
theorem q_mabs {x : Int} {index : Nat} (hx : -2147483648 ≤ x ∧ x < 2147483648) (hml : Cond.methodLink own index Lib.Math.abs.name ∈ lw_G) (hdg : decode cc pc = .ok (.invokestatic index, 3)) (h1 : 1 ≤ d) (hrest : (st.map fun v => v.category).sum ≤ 8) (kk : q_T l K L own cc nL ret d post (pc + 3) lv (vi (x.natAbs : Int) :: st) σ) : q_T l K L own cc nL ret d post pc lv (vi x :: st) σ := by
  intro p e s m args below meth c H locs ls f f0 sz X hr hz hS ha hf hl
  refine pw_mabs X hl.1 hml hdg ⟨h1, by show _ ≤ 64 * d; omega⟩ ⟨Nat.le_refl _, Nat.le_refl _⟩ (q_tp (congrArg Value.int ?_) (kk _ _ _ _ _ _ _ _ _ _ _ _ _ _ X hr hz hS ha hf hl))
  have h2 := q_le (x := 0) ⟨by decide, by decide⟩ hx
  split
  · rename_i h
    have h3 := h2.mp h
    rw [show ((x.natAbs : Nat) : Int) = x by omega]
  · rename_i h
    have h3 : ¬ 0 ≤ x := fun q => h (h2.mpr q)
    rw [show ((x.natAbs : Nat) : Int) = 0 - x by omega]
    exact (q_isub_eq 0 x).symm
theorem q_vret (hret : ret = none) (hp : post none σ) (hdg : decode cc pc = .ok (.return_, 1)) : q_T l K L own cc nL ret d post pc lv [] σ := by
  intro p e s m args below meth c H locs ls f f0 sz X hr hz hS ha hf hl
  exact pw_vret X hS (hr.trans hret) ⟨hz, σ, ha, hf, hp⟩ (Nat.le_refl 0) (Nat.le_refl 0) hdg
theorem q_iret {x : Int} (hret : ret = some .int) (hp : post (some (vi x)) σ) (hdg : decode cc pc = .ok (.ireturn, 1)) : q_T l K L own cc nL ret d post pc lv [vi x] σ := by
  intro p e s m args below meth c H locs ls f f0 sz X hr hz hS ha hf hl
  exact pw_iret X hS (hr.trans hret) ⟨hz, σ, ha, hf, hp⟩ (Nat.le_refl 0) (Nat.le_refl 0) hdg
theorem q_zret {x : Int} (hret : ret = some .boolean) (hx : x = 0 ∨ x = 1) (hp : post (some (vi x)) σ) (hdg : decode cc pc = .ok (.ireturn, 1)) : q_T l K L own cc nL ret d post pc lv [vi x] σ := by
  intro p e s m args below meth c H locs ls f f0 sz X hr hz hS ha hf hl
  exact pw_zret X hS (hr.trans hret) (by rcases hx with rfl | rfl <;> rfl) ⟨hz, σ, ha, hf, hp⟩ (Nat.le_refl 0) (Nat.le_refl 0) hdg
theorem q_lret {x : Int} (hret : ret = some .long) (hp : post (some (vl x)) σ) (hdg : decode cc pc = .ok (.lreturn, 1)) : q_T l K L own cc nL ret d post pc lv [vl x] σ := by
  intro p e s m args below meth c H locs ls f f0 sz X hr hz hS ha hf hl
  exact pw_lret X hS (hr.trans hret) ⟨hz, σ, ha, hf, hp⟩ (Nat.le_refl 0) (Nat.le_refl 0) hdg
theorem q_aret {a : Nat} {C : String} (hret : ret = some (.object C)) (hp : post (some (.ref a)) σ) (hdg : decode cc pc = .ok (.areturn, 1)) : q_T l K L own cc nL ret d post pc lv [.ref a] σ := by
  intro p e s m args below meth c H locs ls f f0 sz X hr hz hS ha hf hl
  obtain ⟨hx, hb, -, -, -, -, ⟨hlk, -⟩, -, -⟩ := X
  exact W.aret hx hb (hr.trans hret) (Or.inl ⟨C, rfl⟩) (Or.inr ⟨a, rfl⟩) (fun t ht hW => ⟨_, f, rfl, ⟨by rw [ht]; exact hz, σ, ha, hf, hp⟩, by rw [ht]; exact hS.1, by rw [ht]; exact hS.2.2⟩) hS.2.1 hdg
end QT
theorem q_start {l : Launch} {K : pw_K} {L : q_L} {y : MethodName} {b : ByteArray} {nL : Nat} {ret : Option FieldType} {d : Nat} {av : List Value} {σ : q_S} {post : Option Value → q_S → Prop} (lv : List (Option Value)) (hy : plainName y.cls = true) (hn : (lg_sl av).length ≤ nL) (hlv : ∀ q ∈ q_lv 0 lv, q ∈ lv_args 0 av) (body : q_T l K L y.cls b nL ret d post 0 lv [] σ) : q_C l K L y b nL ret d av σ post := by
  intro f sz hat
  refine pw_start hy hn ?_
  intro p e s m args below meth c ls X hr hin hz hS hl
  exact body _ _ _ _ _ _ _ _ _ _ _ _ _ _ X hr hz hS hat (fun q _ => rfl) (q_has hl hlv)
