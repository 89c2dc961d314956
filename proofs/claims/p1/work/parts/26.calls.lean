/-! THE LAW: its loop, out of what each call does -/
section PWL
variable {p : Program} {l : Launch} {e : Env} {R : Room} {s : State} {m : MethodId} {args : Array Value} {below : List Frame} {meth : Method} {c : Code} {H : Heap} {locs : List Loc} {cells slots : Nat} {Q : State → Prop}
variable {cc : ByteArray} {pc nL : Nat} {ls : Array Slot} {rest st : List Value} {K : pw_K} {f : pw_F} {own : String}
theorem pw_vaS (hKs : pZ K = s) (hS : pw_S K f H locs) : va_S (fun q => s.heap.size ≤ q) s.heap H locs := by
  subst hKs
  exact ⟨hS.2.2, fun q hq _ => hS.1.1.1 q hq, hS.2.1⟩
theorem pw_sld (X : pw_X p s m args meth c K own cc nL) (hKs : pZ K = s) (hS : pw_S K f H locs) {b Ln : Nat} {xs : Nat → Int32} (hXs : va_X b Ln xs s s.heap) (hbl : b < s.heap.size) {i : Int32} (hin : vp_in i Ln) (hdg : decode cc pc = .ok (.iaload, 1))
    (kk : W p l e R s m args below meth c H locs cells slots Q (F0 m (pc + 1) ls (.int (xs i.toNatClampNeg) :: rest))) : W p l e R s m args below meth c H locs cells slots Q (F0 m pc ls (.int i :: .ref b :: rest)) :=
  va_sld (A := fun q => s.heap.size ≤ q) X.1 X.2.1 hXs hbl (Nat.not_le.mpr hbl) (pw_vaS hKs hS) hin hdg kk
theorem pw_slen (X : pw_X p s m args meth c K own cc nL) (hKs : pZ K = s) (hS : pw_S K f H locs) {b Ln : Nat} {xs : Nat → Int32} (hXs : va_X b Ln xs s s.heap) (hbl : b < s.heap.size) (hdg : decode cc pc = .ok (.arraylength, 1))
    (kk : W p l e R s m args below meth c H locs cells slots Q (F0 m (pc + 1) ls (.int (nI Ln) :: rest))) : W p l e R s m args below meth c H locs cells slots Q (F0 m pc ls (.ref b :: rest)) :=
  va_slen (A := fun q => s.heap.size ≤ q) X.1 X.2.1 hXs hbl (Nat.not_le.mpr hbl) (pw_vaS hKs hS) hdg kk
end PWL
def lop (a b : Int32) : Int64 := (a.toInt64 <<< ((32 : Int32).toInt64 &&& 63)) ||| (b.toInt64 &&& 4294967295)
/-- the three things of the law: the class's object, the reference's, the answer's cell -/
def bas (K : pw_K) (xa ma oa : Nat) (f : pw_F) : Prop := (∃ fs : List Value, f xa = some (.inr (10, fs))) ∧ (∃ (th wr : Int32) (L Z S G P Ex O T V : Nat → Int32), mo K f ma th wr L Z S G P Ex O T V) ∧ ∃ go : Nat → Int64, f oa = some (.inl (pE K 1, 1, .inr (.inl go)))
def aft (K : pw_K) (xa ma oa : Nat) (kc : Int32) (b : Int64) (J : pw_F → Prop) (f : pw_F) : Prop := (∃ fs : List Value, f xa = some (.inr (10, fs))) ∧ (∃ (wr : Int32) (L Z S G P Ex O T V : Nat → Int32), mo K f ma kc wr L Z S G P Ex O T V) ∧ (∃ go : Nat → Int64, f oa = some (.inl (pE K 1, 1, .inr (.inl go))) ∧ (kc = 0 → go 0 = b)) ∧ J f
/-- the wrapper's half of a call: it answers kc and leaves a world with Mid -/
def stW (l : Launch) (K : pw_K) (yW : MethodName) (bW : ByteArray) (nW : Nat) (hh : List (Nat × Nat × Nat × Nat)) (AW : List Value) (f : pw_F) (kc : Int32) (Mid : pw_F → Prop) : Prop :=
  ∃ d mc ms : Nat, (d ≤ 1000 ∧ mc ≤ 500 ∧ ms ≤ 6000) ∧ ∀ sz, ∃ PW : Option Value → pw_F → Nat → Prop, pw_W l K yW bW nW (some .int) hh (rmk d mc ms) f AW sz PW ∧ ∀ v f2 z, PW v f2 z → v = some (.int kc) ∧ Mid f2
/-- the reference's half -/
def stM (l : Launch) (K : pw_K) (yM : MethodName) (bM : ByteArray) (nM : Nat) (ret : Option FieldType) (AM : List Value) (f : pw_F) (b : Option Value) (End : pw_F → Prop) : Prop :=
  ∃ d mc ms : Nat, (d ≤ 1000 ∧ mc ≤ 500 ∧ ms ≤ 6000) ∧ ∀ sz, ∃ PM : Option Value → pw_F → Nat → Prop, pw_C l K yM bM nM ret (rmk d mc ms) f AM sz PM ∧ ∀ v f2 z, PM v f2 z → v = b ∧ End f2
def st_put (l : Launch) (K : pw_K) (xa ma oa : Nat) (p0 : Int32) (p1 : Int32) (p2 : Int32) (f : pw_F) (J : pw_F → Prop) : Prop := ∃ (kc : Int32) (Mid : pw_F → Prop), stW l K y_La_put b_La_put 5 [(0, 7, 10, 13)] [.ref xa, .int p0, .int p1, .int p2] f kc Mid ∧ ∀ f2, Mid f2 → bas K xa ma oa f2 ∧ stM l K y_Mo_put b_Mo_put 5 none [.ref ma, .int p0, .int p1, .int p2] f2 none (fun f3 => ∃ go : Int64, aft K xa ma oa kc go J f3)
def st_degree (l : Launch) (K : pw_K) (xa ma oa : Nat) (p0 : Int32) (f : pw_F) (J : pw_F → Prop) : Prop := ∃ (kc : Int32) (Mid : pw_F → Prop), stW l K y_La_degree b_La_degree 4 [(0, 9, 12, 13)] [.ref xa, .int p0, .ref oa] f kc Mid ∧ ∀ f2, Mid f2 → bas K xa ma oa f2 ∧ ∃ bb : Int32, stM l K y_Mo_degree b_Mo_degree 2 (some .int) [.ref ma, .int p0] f2 (some (.int bb)) (aft K xa ma oa kc bb.toInt64 J)
def st_roots (l : Launch) (K : pw_K) (xa ma oa : Nat) (p0 : Int32) (f : pw_F) (J : pw_F → Prop) : Prop := ∃ (kc : Int32) (Mid : pw_F → Prop), stW l K y_La_roots b_La_roots 4 [(0, 9, 12, 13), (0, 9, 15, 22)] [.ref xa, .int p0, .ref oa] f kc Mid ∧ ∀ f2, Mid f2 → bas K xa ma oa f2 ∧ ∃ bb : Int32, stM l K y_Mo_roots b_Mo_roots 2 (some .int) [.ref ma, .int p0] f2 (some (.int bb)) (aft K xa ma oa kc bb.toInt64 J)
def st_repeated (l : Launch) (K : pw_K) (xa ma oa : Nat) (p0 : Int32) (f : pw_F) (J : pw_F → Prop) : Prop := ∃ (kc : Int32) (Mid : pw_F → Prop), stW l K y_La_repeated b_La_repeated 4 [(0, 9, 12, 13), (0, 9, 15, 22)] [.ref xa, .int p0, .ref oa] f kc Mid ∧ ∀ f2, Mid f2 → bas K xa ma oa f2 ∧ ∃ bb : Int32, stM l K y_Mo_repeated b_Mo_repeated 2 (some .int) [.ref ma, .int p0] f2 (some (.int bb)) (aft K xa ma oa kc bb.toInt64 J)
def st_sign (l : Launch) (K : pw_K) (xa ma oa : Nat) (p0 : Int32) (q1 : Int64) (p2 : Int32) (f : pw_F) (J : pw_F → Prop) : Prop := ∃ (kc : Int32) (Mid : pw_F → Prop), stW l K y_La_sign b_La_sign 7 [(0, 13, 16, 13), (0, 13, 20, 22)] [.ref xa, .int p0, .long q1, .int p2, .ref oa] f kc Mid ∧ ∀ f2, Mid f2 → bas K xa ma oa f2 ∧ ∃ bb : Int32, stM l K y_Mo_sign b_Mo_sign 5 (some .int) [.ref ma, .int p0, .long q1, .int p2] f2 (some (.int bb)) (aft K xa ma oa kc bb.toInt64 J)
def st_between (l : Launch) (K : pw_K) (xa ma oa : Nat) (p0 : Int32) (q1 : Int64) (p2 : Int32) (q3 : Int64) (p4 : Int32) (f : pw_F) (J : pw_F → Prop) : Prop := ∃ (kc : Int32) (Mid : pw_F → Prop), stW l K y_La_between b_La_between 10 [(0, 17, 20, 13), (0, 17, 24, 22)] [.ref xa, .int p0, .long q1, .int p2, .long q3, .int p4, .ref oa] f kc Mid ∧ ∀ f2, Mid f2 → bas K xa ma oa f2 ∧ ∃ bb : Int32, stM l K y_Mo_between b_Mo_between 10 (some .int) [.ref ma, .int p0, .long q1, .int p2, .long q3, .int p4] f2 (some (.int bb)) (aft K xa ma oa kc bb.toInt64 J)
def st_multiple (l : Launch) (K : pw_K) (xa ma oa : Nat) (p0 : Int32) (p1 : Int32) (f : pw_F) (J : pw_F → Prop) : Prop := ∃ (kc : Int32) (Mid : pw_F → Prop), stW l K y_La_multiple b_La_multiple 5 [(0, 10, 13, 13), (0, 10, 17, 22), (0, 10, 21, 39)] [.ref xa, .int p0, .int p1, .ref oa] f kc Mid ∧ ∀ f2, Mid f2 → bas K xa ma oa f2 ∧ ∃ bb : Int32, stM l K y_Mo_multiple b_Mo_multiple 5 (some .int) [.ref ma, .int p0, .int p1] f2 (some (.int bb)) (aft K xa ma oa kc bb.toInt64 J)
def st_side (l : Launch) (K : pw_K) (xa ma oa : Nat) (p0 : Int32) (p1 : Int32) (q2 : Int64) (p3 : Int32) (f : pw_F) (J : pw_F → Prop) : Prop := ∃ (kc : Int32) (Mid : pw_F → Prop), stW l K y_La_side b_La_side 8 [(0, 14, 17, 13), (0, 14, 21, 22), (0, 14, 25, 39)] [.ref xa, .int p0, .int p1, .long q2, .int p3, .ref oa] f kc Mid ∧ ∀ f2, Mid f2 → bas K xa ma oa f2 ∧ ∃ bb : Int32, stM l K y_Mo_side b_Mo_side 6 (some .int) [.ref ma, .int p0, .int p1, .long q2, .int p3] f2 (some (.int bb)) (aft K xa ma oa kc bb.toInt64 J)
def st_floor (l : Launch) (K : pw_K) (xa ma oa : Nat) (p0 : Int32) (p1 : Int32) (p2 : Int32) (p3 : Int32) (f : pw_F) (J : pw_F → Prop) : Prop := ∃ (kc : Int32) (Mid : pw_F → Prop), stW l K y_La_floor b_La_floor 7 [(0, 14, 17, 13), (0, 14, 21, 22), (0, 14, 25, 39)] [.ref xa, .int p0, .int p1, .int p2, .int p3, .ref oa] f kc Mid ∧ ∀ f2, Mid f2 → bas K xa ma oa f2 ∧ ∃ bb : Int32, stM l K y_Mo_floor b_Mo_floor 7 (some .int) [.ref ma, .int p0, .int p1, .int p2, .int p3] f2 (some (.int bb)) (aft K xa ma oa kc bb.toInt64 J)
def st_apart (l : Launch) (K : pw_K) (xa ma oa : Nat) (p0 : Int32) (f : pw_F) (J : pw_F → Prop) : Prop := ∃ (kc : Int32) (Mid : pw_F → Prop), stW l K y_La_apart b_La_apart 4 [(0, 9, 12, 13), (0, 9, 15, 22)] [.ref xa, .int p0, .ref oa] f kc Mid ∧ ∀ f2, Mid f2 → bas K xa ma oa f2 ∧ ∃ bb : Int32, stM l K y_Mo_apart b_Mo_apart 5 (some .int) [.ref ma, .int p0] f2 (some (.int bb)) (aft K xa ma oa kc bb.toInt64 J)
def st_order (l : Launch) (K : pw_K) (xa ma oa : Nat) (p0 : Int32) (p1 : Int32) (f : pw_F) (J : pw_F → Prop) : Prop := ∃ (kc : Int32) (Mid : pw_F → Prop), stW l K y_La_order b_La_order 5 [(0, 10, 13, 22), (0, 10, 17, 39)] [.ref xa, .int p0, .int p1, .ref oa] f kc Mid ∧ ∀ f2, Mid f2 → bas K xa ma oa f2 ∧ ∃ bb : Int32, stM l K y_Mo_order b_Mo_order 6 (some .int) [.ref ma, .int p0, .int p1] f2 (some (.int bb)) (aft K xa ma oa kc bb.toInt64 J)
def st_signAt (l : Launch) (K : pw_K) (xa ma oa : Nat) (p0 : Int32) (p1 : Int32) (f : pw_F) (J : pw_F → Prop) : Prop := ∃ (kc : Int32) (Mid : pw_F → Prop), stW l K y_La_signAt b_La_signAt 5 [(0, 10, 13, 13), (0, 10, 17, 22), (0, 10, 21, 39)] [.ref xa, .int p0, .int p1, .ref oa] f kc Mid ∧ ∀ f2, Mid f2 → bas K xa ma oa f2 ∧ ∃ bb : Int32, stM l K y_Mo_signAt b_Mo_signAt 7 (some .int) [.ref ma, .int p0, .int p1] f2 (some (.int bb)) (aft K xa ma oa kc bb.toInt64 J)
def st_common (l : Launch) (K : pw_K) (xa ma oa : Nat)  (f : pw_F) (J : pw_F → Prop) : Prop := ∃ (kc : Int32) (Mid : pw_F → Prop), stW l K y_La_common b_La_common 3 [(0, 8, 11, 22)] [.ref xa, .ref oa] f kc Mid ∧ ∀ f2, Mid f2 → bas K xa ma oa f2 ∧ ∃ bb : Int32, stM l K y_Mo_common b_Mo_common 3 (some .int) [.ref ma] f2 (some (.int bb)) (aft K xa ma oa kc bb.toInt64 J)
def st_out (l : Launch) (K : pw_K) (xa ma oa : Nat) (p0 : Int32) (f : pw_F) (J : pw_F → Prop) : Prop := ∃ (kc : Int32) (Mid : pw_F → Prop), stW l K y_La_out b_La_out 4 [(0, 8, 11, 39)] [.ref xa, .int p0, .ref oa] f kc Mid ∧ ∀ f2, Mid f2 → bas K xa ma oa f2 ∧ ∃ bb : Int64, stM l K y_Mo_out b_Mo_out 5 (some .long) [.ref ma, .int p0] f2 (some (.long bb)) (aft K xa ma oa kc bb J)
theorem d_La_law_0 : decode code 0 = .ok (.new 8, 3) := by decide +kernel
theorem d_La_law_3 : decode code 3 = .ok (.dup, 1) := by decide +kernel
theorem d_La_law_4 : decode code 4 = .ok (.invokespecial 66, 3) := by decide +kernel
theorem d_La_law_7 : decode code 7 = .ok (.astore_n 1, 1) := by decide +kernel
theorem d_La_law_8 : decode code 8 = .ok (.new 67, 3) := by decide +kernel
theorem d_La_law_11 : decode code 11 = .ok (.dup, 1) := by decide +kernel
theorem d_La_law_12 : decode code 12 = .ok (.invokespecial 69, 3) := by decide +kernel
theorem d_La_law_15 : decode code 15 = .ok (.astore_n 2, 1) := by decide +kernel
theorem d_La_law_16 : decode code 16 = .ok (.iconst 1, 1) := by decide +kernel
theorem d_La_law_17 : decode code 17 = .ok (.newarray .long, 2) := by decide +kernel
theorem d_La_law_19 : decode code 19 = .ok (.astore_n 3, 1) := by decide +kernel
theorem d_La_law_20 : decode code 20 = .ok (.iconst 0, 1) := by decide +kernel
theorem d_La_law_21 : decode code 21 = .ok (.istore 4, 2) := by decide +kernel
theorem d_La_law_23 : decode code 23 = .ok (.iload 4, 2) := by decide +kernel
theorem d_La_law_25 : decode code 25 = .ok (.aload_n 0, 1) := by decide +kernel
theorem d_La_law_26 : decode code 26 = .ok (.arraylength, 1) := by decide +kernel
theorem d_La_law_27 : decode code 27 = .ok (.bipush 8, 2) := by decide +kernel
theorem d_La_law_29 : decode code 29 = .ok (.isub, 1) := by decide +kernel
theorem d_La_law_30 : decode code 30 = .ok (.if_icmp .gt 1191, 3) := by decide +kernel
theorem d_La_law_33 : decode code 33 = .ok (.aload_n 0, 1) := by decide +kernel
theorem d_La_law_34 : decode code 34 = .ok (.iload 4, 2) := by decide +kernel
theorem d_La_law_36 : decode code 36 = .ok (.iaload, 1) := by decide +kernel
theorem d_La_law_37 : decode code 37 = .ok (.bipush 15, 2) := by decide +kernel
theorem d_La_law_39 : decode code 39 = .ok (.iand, 1) := by decide +kernel
theorem d_La_law_112 : decode code 112 = .ok (.aload_n 1, 1) := by decide +kernel
theorem d_La_law_113 : decode code 113 = .ok (.aload_n 0, 1) := by decide +kernel
theorem d_La_law_114 : decode code 114 = .ok (.iload 4, 2) := by decide +kernel
theorem d_La_law_116 : decode code 116 = .ok (.iconst 1, 1) := by decide +kernel
theorem d_La_law_117 : decode code 117 = .ok (.iadd, 1) := by decide +kernel
theorem d_La_law_118 : decode code 118 = .ok (.iaload, 1) := by decide +kernel
theorem d_La_law_119 : decode code 119 = .ok (.aload_n 0, 1) := by decide +kernel
theorem d_La_law_120 : decode code 120 = .ok (.iload 4, 2) := by decide +kernel
theorem d_La_law_122 : decode code 122 = .ok (.iconst 2, 1) := by decide +kernel
theorem d_La_law_123 : decode code 123 = .ok (.iadd, 1) := by decide +kernel
theorem d_La_law_124 : decode code 124 = .ok (.iaload, 1) := by decide +kernel
theorem d_La_law_125 : decode code 125 = .ok (.aload_n 0, 1) := by decide +kernel
theorem d_La_law_126 : decode code 126 = .ok (.iload 4, 2) := by decide +kernel
theorem d_La_law_128 : decode code 128 = .ok (.iconst 3, 1) := by decide +kernel
theorem d_La_law_129 : decode code 129 = .ok (.iadd, 1) := by decide +kernel
theorem d_La_law_130 : decode code 130 = .ok (.iaload, 1) := by decide +kernel
theorem d_La_law_131 : decode code 131 = .ok (.invokestatic 70, 3) := by decide +kernel
theorem d_La_law_134 : decode code 134 = .ok (.istore 5, 2) := by decide +kernel
theorem d_La_law_136 : decode code 136 = .ok (.aload_n 2, 1) := by decide +kernel
theorem d_La_law_137 : decode code 137 = .ok (.aload_n 0, 1) := by decide +kernel
theorem d_La_law_138 : decode code 138 = .ok (.iload 4, 2) := by decide +kernel
theorem d_La_law_140 : decode code 140 = .ok (.iconst 1, 1) := by decide +kernel
theorem d_La_law_141 : decode code 141 = .ok (.iadd, 1) := by decide +kernel
theorem d_La_law_142 : decode code 142 = .ok (.iaload, 1) := by decide +kernel
theorem d_La_law_143 : decode code 143 = .ok (.aload_n 0, 1) := by decide +kernel
theorem d_La_law_144 : decode code 144 = .ok (.iload 4, 2) := by decide +kernel
theorem d_La_law_146 : decode code 146 = .ok (.iconst 2, 1) := by decide +kernel
theorem d_La_law_147 : decode code 147 = .ok (.iadd, 1) := by decide +kernel
theorem d_La_law_148 : decode code 148 = .ok (.iaload, 1) := by decide +kernel
theorem d_La_law_149 : decode code 149 = .ok (.aload_n 0, 1) := by decide +kernel
theorem d_La_law_150 : decode code 150 = .ok (.iload 4, 2) := by decide +kernel
theorem d_La_law_152 : decode code 152 = .ok (.iconst 3, 1) := by decide +kernel
theorem d_La_law_153 : decode code 153 = .ok (.iadd, 1) := by decide +kernel
theorem d_La_law_154 : decode code 154 = .ok (.iaload, 1) := by decide +kernel
theorem d_La_law_155 : decode code 155 = .ok (.invokevirtual 75, 3) := by decide +kernel
theorem d_La_law_158 : decode code 158 = .ok (.aload_n 2, 1) := by decide +kernel
theorem d_La_law_159 : decode code 159 = .ok (.invokevirtual 76, 3) := by decide +kernel
theorem d_La_law_162 : decode code 162 = .ok (.iload 5, 2) := by decide +kernel
theorem d_La_law_164 : decode code 164 = .ok (.if_icmp .eq 5, 3) := by decide +kernel
theorem d_La_law_167 : decode code 167 = .ok (.iconst 0, 1) := by decide +kernel
theorem d_La_law_168 : decode code 168 = .ok (.ireturn, 1) := by decide +kernel
theorem d_La_law_169 : decode code 169 = .ok (.goto 1046, 3) := by decide +kernel
theorem d_La_law_172 : decode code 172 = .ok (.aload_n 1, 1) := by decide +kernel
theorem d_La_law_173 : decode code 173 = .ok (.aload_n 0, 1) := by decide +kernel
theorem d_La_law_174 : decode code 174 = .ok (.iload 4, 2) := by decide +kernel
theorem d_La_law_176 : decode code 176 = .ok (.iconst 1, 1) := by decide +kernel
theorem d_La_law_177 : decode code 177 = .ok (.iadd, 1) := by decide +kernel
theorem d_La_law_178 : decode code 178 = .ok (.iaload, 1) := by decide +kernel
theorem d_La_law_179 : decode code 179 = .ok (.aload_n 3, 1) := by decide +kernel
theorem d_La_law_180 : decode code 180 = .ok (.invokestatic 79, 3) := by decide +kernel
theorem d_La_law_183 : decode code 183 = .ok (.istore 5, 2) := by decide +kernel
theorem d_La_law_185 : decode code 185 = .ok (.aload_n 2, 1) := by decide +kernel
theorem d_La_law_186 : decode code 186 = .ok (.aload_n 0, 1) := by decide +kernel
theorem d_La_law_187 : decode code 187 = .ok (.iload 4, 2) := by decide +kernel
theorem d_La_law_189 : decode code 189 = .ok (.iconst 1, 1) := by decide +kernel
theorem d_La_law_190 : decode code 190 = .ok (.iadd, 1) := by decide +kernel
theorem d_La_law_191 : decode code 191 = .ok (.iaload, 1) := by decide +kernel
theorem d_La_law_192 : decode code 192 = .ok (.invokevirtual 82, 3) := by decide +kernel
theorem d_La_law_195 : decode code 195 = .ok (.istore 6, 2) := by decide +kernel
theorem d_La_law_197 : decode code 197 = .ok (.aload_n 2, 1) := by decide +kernel
theorem d_La_law_198 : decode code 198 = .ok (.invokevirtual 76, 3) := by decide +kernel
theorem d_La_law_201 : decode code 201 = .ok (.iload 5, 2) := by decide +kernel
theorem d_La_law_203 : decode code 203 = .ok (.if_icmp .eq 5, 3) := by decide +kernel
theorem d_La_law_206 : decode code 206 = .ok (.iconst 0, 1) := by decide +kernel
theorem d_La_law_207 : decode code 207 = .ok (.ireturn, 1) := by decide +kernel
theorem d_La_law_208 : decode code 208 = .ok (.iload 5, 2) := by decide +kernel
theorem d_La_law_210 : decode code 210 = .ok (.ifCond .ne 15, 3) := by decide +kernel
theorem d_La_law_213 : decode code 213 = .ok (.aload_n 3, 1) := by decide +kernel
theorem d_La_law_214 : decode code 214 = .ok (.iconst 0, 1) := by decide +kernel
theorem d_La_law_215 : decode code 215 = .ok (.laload, 1) := by decide +kernel
theorem d_La_law_216 : decode code 216 = .ok (.iload 6, 2) := by decide +kernel
theorem d_La_law_218 : decode code 218 = .ok (.i2l, 1) := by decide +kernel
theorem d_La_law_219 : decode code 219 = .ok (.lcmp, 1) := by decide +kernel
theorem d_La_law_220 : decode code 220 = .ok (.ifCond .eq 5, 3) := by decide +kernel
theorem d_La_law_223 : decode code 223 = .ok (.iconst 0, 1) := by decide +kernel
theorem d_La_law_224 : decode code 224 = .ok (.ireturn, 1) := by decide +kernel
theorem d_La_law_225 : decode code 225 = .ok (.goto 990, 3) := by decide +kernel
theorem d_La_law_228 : decode code 228 = .ok (.aload_n 1, 1) := by decide +kernel
theorem d_La_law_229 : decode code 229 = .ok (.aload_n 0, 1) := by decide +kernel
theorem d_La_law_230 : decode code 230 = .ok (.iload 4, 2) := by decide +kernel
theorem d_La_law_232 : decode code 232 = .ok (.iconst 1, 1) := by decide +kernel
theorem d_La_law_233 : decode code 233 = .ok (.iadd, 1) := by decide +kernel
theorem d_La_law_234 : decode code 234 = .ok (.iaload, 1) := by decide +kernel
theorem d_La_law_235 : decode code 235 = .ok (.aload_n 3, 1) := by decide +kernel
theorem d_La_law_236 : decode code 236 = .ok (.invokestatic 83, 3) := by decide +kernel
theorem d_La_law_239 : decode code 239 = .ok (.istore 5, 2) := by decide +kernel
theorem d_La_law_241 : decode code 241 = .ok (.aload_n 2, 1) := by decide +kernel
theorem d_La_law_242 : decode code 242 = .ok (.aload_n 0, 1) := by decide +kernel
theorem d_La_law_243 : decode code 243 = .ok (.iload 4, 2) := by decide +kernel
theorem d_La_law_245 : decode code 245 = .ok (.iconst 1, 1) := by decide +kernel
theorem d_La_law_246 : decode code 246 = .ok (.iadd, 1) := by decide +kernel
theorem d_La_law_247 : decode code 247 = .ok (.iaload, 1) := by decide +kernel
theorem d_La_law_248 : decode code 248 = .ok (.invokevirtual 85, 3) := by decide +kernel
theorem d_La_law_251 : decode code 251 = .ok (.istore 6, 2) := by decide +kernel
theorem d_La_law_253 : decode code 253 = .ok (.aload_n 2, 1) := by decide +kernel
theorem d_La_law_254 : decode code 254 = .ok (.invokevirtual 76, 3) := by decide +kernel
theorem d_La_law_257 : decode code 257 = .ok (.iload 5, 2) := by decide +kernel
theorem d_La_law_259 : decode code 259 = .ok (.if_icmp .eq 5, 3) := by decide +kernel
theorem d_La_law_262 : decode code 262 = .ok (.iconst 0, 1) := by decide +kernel
theorem d_La_law_263 : decode code 263 = .ok (.ireturn, 1) := by decide +kernel
theorem d_La_law_264 : decode code 264 = .ok (.iload 5, 2) := by decide +kernel
theorem d_La_law_266 : decode code 266 = .ok (.ifCond .ne 15, 3) := by decide +kernel
theorem d_La_law_269 : decode code 269 = .ok (.aload_n 3, 1) := by decide +kernel
theorem d_La_law_270 : decode code 270 = .ok (.iconst 0, 1) := by decide +kernel
theorem d_La_law_271 : decode code 271 = .ok (.laload, 1) := by decide +kernel
theorem d_La_law_272 : decode code 272 = .ok (.iload 6, 2) := by decide +kernel
theorem d_La_law_274 : decode code 274 = .ok (.i2l, 1) := by decide +kernel
theorem d_La_law_275 : decode code 275 = .ok (.lcmp, 1) := by decide +kernel
theorem d_La_law_276 : decode code 276 = .ok (.ifCond .eq 5, 3) := by decide +kernel
theorem d_La_law_279 : decode code 279 = .ok (.iconst 0, 1) := by decide +kernel
theorem d_La_law_280 : decode code 280 = .ok (.ireturn, 1) := by decide +kernel
theorem d_La_law_281 : decode code 281 = .ok (.goto 934, 3) := by decide +kernel
theorem d_La_law_284 : decode code 284 = .ok (.aload_n 1, 1) := by decide +kernel
theorem d_La_law_285 : decode code 285 = .ok (.aload_n 0, 1) := by decide +kernel
theorem d_La_law_286 : decode code 286 = .ok (.iload 4, 2) := by decide +kernel
theorem d_La_law_288 : decode code 288 = .ok (.iconst 1, 1) := by decide +kernel
theorem d_La_law_289 : decode code 289 = .ok (.iadd, 1) := by decide +kernel
theorem d_La_law_290 : decode code 290 = .ok (.iaload, 1) := by decide +kernel
theorem d_La_law_291 : decode code 291 = .ok (.aload_n 3, 1) := by decide +kernel
theorem d_La_law_292 : decode code 292 = .ok (.invokestatic 86, 3) := by decide +kernel
theorem d_La_law_295 : decode code 295 = .ok (.istore 5, 2) := by decide +kernel
theorem d_La_law_297 : decode code 297 = .ok (.aload_n 2, 1) := by decide +kernel
theorem d_La_law_298 : decode code 298 = .ok (.aload_n 0, 1) := by decide +kernel
theorem d_La_law_299 : decode code 299 = .ok (.iload 4, 2) := by decide +kernel
theorem d_La_law_301 : decode code 301 = .ok (.iconst 1, 1) := by decide +kernel
theorem d_La_law_302 : decode code 302 = .ok (.iadd, 1) := by decide +kernel
theorem d_La_law_303 : decode code 303 = .ok (.iaload, 1) := by decide +kernel
theorem d_La_law_304 : decode code 304 = .ok (.invokevirtual 88, 3) := by decide +kernel
theorem d_La_law_307 : decode code 307 = .ok (.istore 6, 2) := by decide +kernel
theorem d_La_law_309 : decode code 309 = .ok (.aload_n 2, 1) := by decide +kernel
theorem d_La_law_310 : decode code 310 = .ok (.invokevirtual 76, 3) := by decide +kernel
theorem d_La_law_313 : decode code 313 = .ok (.iload 5, 2) := by decide +kernel
theorem d_La_law_315 : decode code 315 = .ok (.if_icmp .eq 5, 3) := by decide +kernel
theorem d_La_law_318 : decode code 318 = .ok (.iconst 0, 1) := by decide +kernel
theorem d_La_law_319 : decode code 319 = .ok (.ireturn, 1) := by decide +kernel
theorem d_La_law_320 : decode code 320 = .ok (.iload 5, 2) := by decide +kernel
theorem d_La_law_322 : decode code 322 = .ok (.ifCond .ne 15, 3) := by decide +kernel
theorem d_La_law_325 : decode code 325 = .ok (.aload_n 3, 1) := by decide +kernel
theorem d_La_law_326 : decode code 326 = .ok (.iconst 0, 1) := by decide +kernel
theorem d_La_law_327 : decode code 327 = .ok (.laload, 1) := by decide +kernel
theorem d_La_law_328 : decode code 328 = .ok (.iload 6, 2) := by decide +kernel
theorem d_La_law_330 : decode code 330 = .ok (.i2l, 1) := by decide +kernel
theorem d_La_law_331 : decode code 331 = .ok (.lcmp, 1) := by decide +kernel
theorem d_La_law_332 : decode code 332 = .ok (.ifCond .eq 5, 3) := by decide +kernel
theorem d_La_law_335 : decode code 335 = .ok (.iconst 0, 1) := by decide +kernel
theorem d_La_law_336 : decode code 336 = .ok (.ireturn, 1) := by decide +kernel
theorem d_La_law_337 : decode code 337 = .ok (.goto 878, 3) := by decide +kernel
theorem d_La_law_340 : decode code 340 = .ok (.aload_n 1, 1) := by decide +kernel
theorem d_La_law_341 : decode code 341 = .ok (.aload_n 0, 1) := by decide +kernel
theorem d_La_law_342 : decode code 342 = .ok (.iload 4, 2) := by decide +kernel
theorem d_La_law_344 : decode code 344 = .ok (.iconst 1, 1) := by decide +kernel
theorem d_La_law_345 : decode code 345 = .ok (.iadd, 1) := by decide +kernel
theorem d_La_law_346 : decode code 346 = .ok (.iaload, 1) := by decide +kernel
theorem d_La_law_347 : decode code 347 = .ok (.aload_n 0, 1) := by decide +kernel
theorem d_La_law_348 : decode code 348 = .ok (.iload 4, 2) := by decide +kernel
theorem d_La_law_350 : decode code 350 = .ok (.iconst 2, 1) := by decide +kernel
theorem d_La_law_351 : decode code 351 = .ok (.iadd, 1) := by decide +kernel
theorem d_La_law_352 : decode code 352 = .ok (.iaload, 1) := by decide +kernel
theorem d_La_law_353 : decode code 353 = .ok (.i2l, 1) := by decide +kernel
theorem d_La_law_354 : decode code 354 = .ok (.bipush 32, 2) := by decide +kernel
theorem d_La_law_356 : decode code 356 = .ok (.lshl, 1) := by decide +kernel
theorem d_La_law_357 : decode code 357 = .ok (.aload_n 0, 1) := by decide +kernel
theorem d_La_law_358 : decode code 358 = .ok (.iload 4, 2) := by decide +kernel
theorem d_La_law_360 : decode code 360 = .ok (.iconst 3, 1) := by decide +kernel
theorem d_La_law_361 : decode code 361 = .ok (.iadd, 1) := by decide +kernel
theorem d_La_law_362 : decode code 362 = .ok (.iaload, 1) := by decide +kernel
theorem d_La_law_363 : decode code 363 = .ok (.i2l, 1) := by decide +kernel
theorem d_La_law_364 : decode code 364 = .ok (.ldc2_w 89, 3) := by decide +kernel
theorem d_La_law_367 : decode code 367 = .ok (.land, 1) := by decide +kernel
theorem d_La_law_368 : decode code 368 = .ok (.lor, 1) := by decide +kernel
theorem d_La_law_369 : decode code 369 = .ok (.aload_n 0, 1) := by decide +kernel
theorem d_La_law_370 : decode code 370 = .ok (.iload 4, 2) := by decide +kernel
theorem d_La_law_372 : decode code 372 = .ok (.iconst 4, 1) := by decide +kernel
theorem d_La_law_373 : decode code 373 = .ok (.iadd, 1) := by decide +kernel
theorem d_La_law_374 : decode code 374 = .ok (.iaload, 1) := by decide +kernel
theorem d_La_law_375 : decode code 375 = .ok (.aload_n 3, 1) := by decide +kernel
theorem d_La_law_376 : decode code 376 = .ok (.invokestatic 91, 3) := by decide +kernel
theorem d_La_law_379 : decode code 379 = .ok (.istore 5, 2) := by decide +kernel
theorem d_La_law_381 : decode code 381 = .ok (.aload_n 2, 1) := by decide +kernel
theorem d_La_law_382 : decode code 382 = .ok (.aload_n 0, 1) := by decide +kernel
theorem d_La_law_383 : decode code 383 = .ok (.iload 4, 2) := by decide +kernel
theorem d_La_law_385 : decode code 385 = .ok (.iconst 1, 1) := by decide +kernel
theorem d_La_law_386 : decode code 386 = .ok (.iadd, 1) := by decide +kernel
theorem d_La_law_387 : decode code 387 = .ok (.iaload, 1) := by decide +kernel
theorem d_La_law_388 : decode code 388 = .ok (.aload_n 0, 1) := by decide +kernel
theorem d_La_law_389 : decode code 389 = .ok (.iload 4, 2) := by decide +kernel
theorem d_La_law_391 : decode code 391 = .ok (.iconst 2, 1) := by decide +kernel
theorem d_La_law_392 : decode code 392 = .ok (.iadd, 1) := by decide +kernel
theorem d_La_law_393 : decode code 393 = .ok (.iaload, 1) := by decide +kernel
theorem d_La_law_394 : decode code 394 = .ok (.i2l, 1) := by decide +kernel
theorem d_La_law_395 : decode code 395 = .ok (.bipush 32, 2) := by decide +kernel
theorem d_La_law_397 : decode code 397 = .ok (.lshl, 1) := by decide +kernel
theorem d_La_law_398 : decode code 398 = .ok (.aload_n 0, 1) := by decide +kernel
theorem d_La_law_399 : decode code 399 = .ok (.iload 4, 2) := by decide +kernel
theorem d_La_law_401 : decode code 401 = .ok (.iconst 3, 1) := by decide +kernel
theorem d_La_law_402 : decode code 402 = .ok (.iadd, 1) := by decide +kernel
theorem d_La_law_403 : decode code 403 = .ok (.iaload, 1) := by decide +kernel
theorem d_La_law_404 : decode code 404 = .ok (.i2l, 1) := by decide +kernel
theorem d_La_law_405 : decode code 405 = .ok (.ldc2_w 89, 3) := by decide +kernel
theorem d_La_law_408 : decode code 408 = .ok (.land, 1) := by decide +kernel
theorem d_La_law_409 : decode code 409 = .ok (.lor, 1) := by decide +kernel
theorem d_La_law_410 : decode code 410 = .ok (.aload_n 0, 1) := by decide +kernel
theorem d_La_law_411 : decode code 411 = .ok (.iload 4, 2) := by decide +kernel
theorem d_La_law_413 : decode code 413 = .ok (.iconst 4, 1) := by decide +kernel
theorem d_La_law_414 : decode code 414 = .ok (.iadd, 1) := by decide +kernel
theorem d_La_law_415 : decode code 415 = .ok (.iaload, 1) := by decide +kernel
theorem d_La_law_416 : decode code 416 = .ok (.invokevirtual 94, 3) := by decide +kernel
theorem d_La_law_419 : decode code 419 = .ok (.istore 6, 2) := by decide +kernel
theorem d_La_law_421 : decode code 421 = .ok (.aload_n 2, 1) := by decide +kernel
theorem d_La_law_422 : decode code 422 = .ok (.invokevirtual 76, 3) := by decide +kernel
theorem d_La_law_425 : decode code 425 = .ok (.iload 5, 2) := by decide +kernel
theorem d_La_law_427 : decode code 427 = .ok (.if_icmp .eq 5, 3) := by decide +kernel
theorem d_La_law_430 : decode code 430 = .ok (.iconst 0, 1) := by decide +kernel
theorem d_La_law_431 : decode code 431 = .ok (.ireturn, 1) := by decide +kernel
theorem d_La_law_432 : decode code 432 = .ok (.iload 5, 2) := by decide +kernel
theorem d_La_law_434 : decode code 434 = .ok (.ifCond .ne 15, 3) := by decide +kernel
theorem d_La_law_437 : decode code 437 = .ok (.aload_n 3, 1) := by decide +kernel
theorem d_La_law_438 : decode code 438 = .ok (.iconst 0, 1) := by decide +kernel
theorem d_La_law_439 : decode code 439 = .ok (.laload, 1) := by decide +kernel
theorem d_La_law_440 : decode code 440 = .ok (.iload 6, 2) := by decide +kernel
theorem d_La_law_442 : decode code 442 = .ok (.i2l, 1) := by decide +kernel
theorem d_La_law_443 : decode code 443 = .ok (.lcmp, 1) := by decide +kernel
theorem d_La_law_444 : decode code 444 = .ok (.ifCond .eq 5, 3) := by decide +kernel
theorem d_La_law_447 : decode code 447 = .ok (.iconst 0, 1) := by decide +kernel
theorem d_La_law_448 : decode code 448 = .ok (.ireturn, 1) := by decide +kernel
theorem d_La_law_449 : decode code 449 = .ok (.goto 766, 3) := by decide +kernel
theorem d_La_law_452 : decode code 452 = .ok (.aload_n 1, 1) := by decide +kernel
theorem d_La_law_453 : decode code 453 = .ok (.aload_n 0, 1) := by decide +kernel
theorem d_La_law_454 : decode code 454 = .ok (.iload 4, 2) := by decide +kernel
theorem d_La_law_456 : decode code 456 = .ok (.iconst 1, 1) := by decide +kernel
theorem d_La_law_457 : decode code 457 = .ok (.iadd, 1) := by decide +kernel
theorem d_La_law_458 : decode code 458 = .ok (.iaload, 1) := by decide +kernel
theorem d_La_law_459 : decode code 459 = .ok (.aload_n 0, 1) := by decide +kernel
theorem d_La_law_460 : decode code 460 = .ok (.iload 4, 2) := by decide +kernel
theorem d_La_law_462 : decode code 462 = .ok (.iconst 2, 1) := by decide +kernel
theorem d_La_law_463 : decode code 463 = .ok (.iadd, 1) := by decide +kernel
theorem d_La_law_464 : decode code 464 = .ok (.iaload, 1) := by decide +kernel
theorem d_La_law_465 : decode code 465 = .ok (.i2l, 1) := by decide +kernel
theorem d_La_law_466 : decode code 466 = .ok (.bipush 32, 2) := by decide +kernel
theorem d_La_law_468 : decode code 468 = .ok (.lshl, 1) := by decide +kernel
theorem d_La_law_469 : decode code 469 = .ok (.aload_n 0, 1) := by decide +kernel
theorem d_La_law_470 : decode code 470 = .ok (.iload 4, 2) := by decide +kernel
theorem d_La_law_472 : decode code 472 = .ok (.iconst 3, 1) := by decide +kernel
theorem d_La_law_473 : decode code 473 = .ok (.iadd, 1) := by decide +kernel
theorem d_La_law_474 : decode code 474 = .ok (.iaload, 1) := by decide +kernel
theorem d_La_law_475 : decode code 475 = .ok (.i2l, 1) := by decide +kernel
theorem d_La_law_476 : decode code 476 = .ok (.ldc2_w 89, 3) := by decide +kernel
theorem d_La_law_479 : decode code 479 = .ok (.land, 1) := by decide +kernel
theorem d_La_law_480 : decode code 480 = .ok (.lor, 1) := by decide +kernel
theorem d_La_law_481 : decode code 481 = .ok (.aload_n 0, 1) := by decide +kernel
theorem d_La_law_482 : decode code 482 = .ok (.iload 4, 2) := by decide +kernel
theorem d_La_law_484 : decode code 484 = .ok (.iconst 4, 1) := by decide +kernel
theorem d_La_law_485 : decode code 485 = .ok (.iadd, 1) := by decide +kernel
theorem d_La_law_486 : decode code 486 = .ok (.iaload, 1) := by decide +kernel
theorem d_La_law_487 : decode code 487 = .ok (.aload_n 0, 1) := by decide +kernel
theorem d_La_law_488 : decode code 488 = .ok (.iload 4, 2) := by decide +kernel
theorem d_La_law_490 : decode code 490 = .ok (.iconst 5, 1) := by decide +kernel
theorem d_La_law_491 : decode code 491 = .ok (.iadd, 1) := by decide +kernel
theorem d_La_law_492 : decode code 492 = .ok (.iaload, 1) := by decide +kernel
theorem d_La_law_493 : decode code 493 = .ok (.i2l, 1) := by decide +kernel
theorem d_La_law_494 : decode code 494 = .ok (.bipush 32, 2) := by decide +kernel
theorem d_La_law_496 : decode code 496 = .ok (.lshl, 1) := by decide +kernel
theorem d_La_law_497 : decode code 497 = .ok (.aload_n 0, 1) := by decide +kernel
theorem d_La_law_498 : decode code 498 = .ok (.iload 4, 2) := by decide +kernel
theorem d_La_law_500 : decode code 500 = .ok (.bipush 6, 2) := by decide +kernel
theorem d_La_law_502 : decode code 502 = .ok (.iadd, 1) := by decide +kernel
theorem d_La_law_503 : decode code 503 = .ok (.iaload, 1) := by decide +kernel
theorem d_La_law_504 : decode code 504 = .ok (.i2l, 1) := by decide +kernel
theorem d_La_law_505 : decode code 505 = .ok (.ldc2_w 89, 3) := by decide +kernel
theorem d_La_law_508 : decode code 508 = .ok (.land, 1) := by decide +kernel
theorem d_La_law_509 : decode code 509 = .ok (.lor, 1) := by decide +kernel
theorem d_La_law_510 : decode code 510 = .ok (.aload_n 0, 1) := by decide +kernel
theorem d_La_law_511 : decode code 511 = .ok (.iload 4, 2) := by decide +kernel
theorem d_La_law_513 : decode code 513 = .ok (.bipush 7, 2) := by decide +kernel
theorem d_La_law_515 : decode code 515 = .ok (.iadd, 1) := by decide +kernel
theorem d_La_law_516 : decode code 516 = .ok (.iaload, 1) := by decide +kernel
theorem d_La_law_517 : decode code 517 = .ok (.aload_n 3, 1) := by decide +kernel
theorem d_La_law_518 : decode code 518 = .ok (.invokestatic 95, 3) := by decide +kernel
theorem d_La_law_521 : decode code 521 = .ok (.istore 5, 2) := by decide +kernel
theorem d_La_law_523 : decode code 523 = .ok (.aload_n 2, 1) := by decide +kernel
theorem d_La_law_524 : decode code 524 = .ok (.aload_n 0, 1) := by decide +kernel
theorem d_La_law_525 : decode code 525 = .ok (.iload 4, 2) := by decide +kernel
theorem d_La_law_527 : decode code 527 = .ok (.iconst 1, 1) := by decide +kernel
theorem d_La_law_528 : decode code 528 = .ok (.iadd, 1) := by decide +kernel
theorem d_La_law_529 : decode code 529 = .ok (.iaload, 1) := by decide +kernel
theorem d_La_law_530 : decode code 530 = .ok (.aload_n 0, 1) := by decide +kernel
theorem d_La_law_531 : decode code 531 = .ok (.iload 4, 2) := by decide +kernel
theorem d_La_law_533 : decode code 533 = .ok (.iconst 2, 1) := by decide +kernel
theorem d_La_law_534 : decode code 534 = .ok (.iadd, 1) := by decide +kernel
theorem d_La_law_535 : decode code 535 = .ok (.iaload, 1) := by decide +kernel
theorem d_La_law_536 : decode code 536 = .ok (.i2l, 1) := by decide +kernel
theorem d_La_law_537 : decode code 537 = .ok (.bipush 32, 2) := by decide +kernel
theorem d_La_law_539 : decode code 539 = .ok (.lshl, 1) := by decide +kernel
theorem d_La_law_540 : decode code 540 = .ok (.aload_n 0, 1) := by decide +kernel
theorem d_La_law_541 : decode code 541 = .ok (.iload 4, 2) := by decide +kernel
theorem d_La_law_543 : decode code 543 = .ok (.iconst 3, 1) := by decide +kernel
theorem d_La_law_544 : decode code 544 = .ok (.iadd, 1) := by decide +kernel
theorem d_La_law_545 : decode code 545 = .ok (.iaload, 1) := by decide +kernel
theorem d_La_law_546 : decode code 546 = .ok (.i2l, 1) := by decide +kernel
theorem d_La_law_547 : decode code 547 = .ok (.ldc2_w 89, 3) := by decide +kernel
theorem d_La_law_550 : decode code 550 = .ok (.land, 1) := by decide +kernel
theorem d_La_law_551 : decode code 551 = .ok (.lor, 1) := by decide +kernel
theorem d_La_law_552 : decode code 552 = .ok (.aload_n 0, 1) := by decide +kernel
theorem d_La_law_553 : decode code 553 = .ok (.iload 4, 2) := by decide +kernel
theorem d_La_law_555 : decode code 555 = .ok (.iconst 4, 1) := by decide +kernel
theorem d_La_law_556 : decode code 556 = .ok (.iadd, 1) := by decide +kernel
theorem d_La_law_557 : decode code 557 = .ok (.iaload, 1) := by decide +kernel
theorem d_La_law_558 : decode code 558 = .ok (.aload_n 0, 1) := by decide +kernel
theorem d_La_law_559 : decode code 559 = .ok (.iload 4, 2) := by decide +kernel
theorem d_La_law_561 : decode code 561 = .ok (.iconst 5, 1) := by decide +kernel
theorem d_La_law_562 : decode code 562 = .ok (.iadd, 1) := by decide +kernel
theorem d_La_law_563 : decode code 563 = .ok (.iaload, 1) := by decide +kernel
theorem d_La_law_564 : decode code 564 = .ok (.i2l, 1) := by decide +kernel
theorem d_La_law_565 : decode code 565 = .ok (.bipush 32, 2) := by decide +kernel
theorem d_La_law_567 : decode code 567 = .ok (.lshl, 1) := by decide +kernel
theorem d_La_law_568 : decode code 568 = .ok (.aload_n 0, 1) := by decide +kernel
theorem d_La_law_569 : decode code 569 = .ok (.iload 4, 2) := by decide +kernel
theorem d_La_law_571 : decode code 571 = .ok (.bipush 6, 2) := by decide +kernel
theorem d_La_law_573 : decode code 573 = .ok (.iadd, 1) := by decide +kernel
theorem d_La_law_574 : decode code 574 = .ok (.iaload, 1) := by decide +kernel
theorem d_La_law_575 : decode code 575 = .ok (.i2l, 1) := by decide +kernel
theorem d_La_law_576 : decode code 576 = .ok (.ldc2_w 89, 3) := by decide +kernel
theorem d_La_law_579 : decode code 579 = .ok (.land, 1) := by decide +kernel
theorem d_La_law_580 : decode code 580 = .ok (.lor, 1) := by decide +kernel
theorem d_La_law_581 : decode code 581 = .ok (.aload_n 0, 1) := by decide +kernel
theorem d_La_law_582 : decode code 582 = .ok (.iload 4, 2) := by decide +kernel
theorem d_La_law_584 : decode code 584 = .ok (.bipush 7, 2) := by decide +kernel
theorem d_La_law_586 : decode code 586 = .ok (.iadd, 1) := by decide +kernel
theorem d_La_law_587 : decode code 587 = .ok (.iaload, 1) := by decide +kernel
theorem d_La_law_588 : decode code 588 = .ok (.invokevirtual 98, 3) := by decide +kernel
theorem d_La_law_591 : decode code 591 = .ok (.istore 6, 2) := by decide +kernel
theorem d_La_law_593 : decode code 593 = .ok (.aload_n 2, 1) := by decide +kernel
theorem d_La_law_594 : decode code 594 = .ok (.invokevirtual 76, 3) := by decide +kernel
theorem d_La_law_597 : decode code 597 = .ok (.iload 5, 2) := by decide +kernel
theorem d_La_law_599 : decode code 599 = .ok (.if_icmp .eq 5, 3) := by decide +kernel
theorem d_La_law_602 : decode code 602 = .ok (.iconst 0, 1) := by decide +kernel
theorem d_La_law_603 : decode code 603 = .ok (.ireturn, 1) := by decide +kernel
theorem d_La_law_604 : decode code 604 = .ok (.iload 5, 2) := by decide +kernel
theorem d_La_law_606 : decode code 606 = .ok (.ifCond .ne 15, 3) := by decide +kernel
theorem d_La_law_609 : decode code 609 = .ok (.aload_n 3, 1) := by decide +kernel
theorem d_La_law_610 : decode code 610 = .ok (.iconst 0, 1) := by decide +kernel
theorem d_La_law_611 : decode code 611 = .ok (.laload, 1) := by decide +kernel
theorem d_La_law_612 : decode code 612 = .ok (.iload 6, 2) := by decide +kernel
theorem d_La_law_614 : decode code 614 = .ok (.i2l, 1) := by decide +kernel
theorem d_La_law_615 : decode code 615 = .ok (.lcmp, 1) := by decide +kernel
theorem d_La_law_616 : decode code 616 = .ok (.ifCond .eq 5, 3) := by decide +kernel
theorem d_La_law_619 : decode code 619 = .ok (.iconst 0, 1) := by decide +kernel
theorem d_La_law_620 : decode code 620 = .ok (.ireturn, 1) := by decide +kernel
theorem d_La_law_621 : decode code 621 = .ok (.goto 594, 3) := by decide +kernel
theorem d_La_law_624 : decode code 624 = .ok (.aload_n 1, 1) := by decide +kernel
theorem d_La_law_625 : decode code 625 = .ok (.aload_n 0, 1) := by decide +kernel
theorem d_La_law_626 : decode code 626 = .ok (.iload 4, 2) := by decide +kernel
theorem d_La_law_628 : decode code 628 = .ok (.iconst 1, 1) := by decide +kernel
theorem d_La_law_629 : decode code 629 = .ok (.iadd, 1) := by decide +kernel
theorem d_La_law_630 : decode code 630 = .ok (.iaload, 1) := by decide +kernel
theorem d_La_law_631 : decode code 631 = .ok (.aload_n 0, 1) := by decide +kernel
theorem d_La_law_632 : decode code 632 = .ok (.iload 4, 2) := by decide +kernel
theorem d_La_law_634 : decode code 634 = .ok (.iconst 2, 1) := by decide +kernel
theorem d_La_law_635 : decode code 635 = .ok (.iadd, 1) := by decide +kernel
theorem d_La_law_636 : decode code 636 = .ok (.iaload, 1) := by decide +kernel
theorem d_La_law_637 : decode code 637 = .ok (.aload_n 3, 1) := by decide +kernel
theorem d_La_law_638 : decode code 638 = .ok (.invokestatic 99, 3) := by decide +kernel
theorem d_La_law_641 : decode code 641 = .ok (.istore 5, 2) := by decide +kernel
theorem d_La_law_643 : decode code 643 = .ok (.aload_n 2, 1) := by decide +kernel
theorem d_La_law_644 : decode code 644 = .ok (.aload_n 0, 1) := by decide +kernel
theorem d_La_law_645 : decode code 645 = .ok (.iload 4, 2) := by decide +kernel
theorem d_La_law_647 : decode code 647 = .ok (.iconst 1, 1) := by decide +kernel
theorem d_La_law_648 : decode code 648 = .ok (.iadd, 1) := by decide +kernel
theorem d_La_law_649 : decode code 649 = .ok (.iaload, 1) := by decide +kernel
theorem d_La_law_650 : decode code 650 = .ok (.aload_n 0, 1) := by decide +kernel
theorem d_La_law_651 : decode code 651 = .ok (.iload 4, 2) := by decide +kernel
theorem d_La_law_653 : decode code 653 = .ok (.iconst 2, 1) := by decide +kernel
theorem d_La_law_654 : decode code 654 = .ok (.iadd, 1) := by decide +kernel
theorem d_La_law_655 : decode code 655 = .ok (.iaload, 1) := by decide +kernel
theorem d_La_law_656 : decode code 656 = .ok (.invokevirtual 102, 3) := by decide +kernel
theorem d_La_law_659 : decode code 659 = .ok (.istore 6, 2) := by decide +kernel
theorem d_La_law_661 : decode code 661 = .ok (.aload_n 2, 1) := by decide +kernel
theorem d_La_law_662 : decode code 662 = .ok (.invokevirtual 76, 3) := by decide +kernel
theorem d_La_law_665 : decode code 665 = .ok (.iload 5, 2) := by decide +kernel
theorem d_La_law_667 : decode code 667 = .ok (.if_icmp .eq 5, 3) := by decide +kernel
theorem d_La_law_670 : decode code 670 = .ok (.iconst 0, 1) := by decide +kernel
theorem d_La_law_671 : decode code 671 = .ok (.ireturn, 1) := by decide +kernel
theorem d_La_law_672 : decode code 672 = .ok (.iload 5, 2) := by decide +kernel
theorem d_La_law_674 : decode code 674 = .ok (.ifCond .ne 15, 3) := by decide +kernel
theorem d_La_law_677 : decode code 677 = .ok (.aload_n 3, 1) := by decide +kernel
theorem d_La_law_678 : decode code 678 = .ok (.iconst 0, 1) := by decide +kernel
theorem d_La_law_679 : decode code 679 = .ok (.laload, 1) := by decide +kernel
theorem d_La_law_680 : decode code 680 = .ok (.iload 6, 2) := by decide +kernel
theorem d_La_law_682 : decode code 682 = .ok (.i2l, 1) := by decide +kernel
theorem d_La_law_683 : decode code 683 = .ok (.lcmp, 1) := by decide +kernel
theorem d_La_law_684 : decode code 684 = .ok (.ifCond .eq 5, 3) := by decide +kernel
theorem d_La_law_687 : decode code 687 = .ok (.iconst 0, 1) := by decide +kernel
theorem d_La_law_688 : decode code 688 = .ok (.ireturn, 1) := by decide +kernel
theorem d_La_law_689 : decode code 689 = .ok (.goto 526, 3) := by decide +kernel
theorem d_La_law_692 : decode code 692 = .ok (.aload_n 1, 1) := by decide +kernel
theorem d_La_law_693 : decode code 693 = .ok (.aload_n 0, 1) := by decide +kernel
theorem d_La_law_694 : decode code 694 = .ok (.iload 4, 2) := by decide +kernel
theorem d_La_law_696 : decode code 696 = .ok (.iconst 1, 1) := by decide +kernel
theorem d_La_law_697 : decode code 697 = .ok (.iadd, 1) := by decide +kernel
theorem d_La_law_698 : decode code 698 = .ok (.iaload, 1) := by decide +kernel
theorem d_La_law_699 : decode code 699 = .ok (.aload_n 0, 1) := by decide +kernel
theorem d_La_law_700 : decode code 700 = .ok (.iload 4, 2) := by decide +kernel
theorem d_La_law_702 : decode code 702 = .ok (.iconst 2, 1) := by decide +kernel
theorem d_La_law_703 : decode code 703 = .ok (.iadd, 1) := by decide +kernel
theorem d_La_law_704 : decode code 704 = .ok (.iaload, 1) := by decide +kernel
theorem d_La_law_705 : decode code 705 = .ok (.aload_n 0, 1) := by decide +kernel
theorem d_La_law_706 : decode code 706 = .ok (.iload 4, 2) := by decide +kernel
theorem d_La_law_708 : decode code 708 = .ok (.iconst 3, 1) := by decide +kernel
theorem d_La_law_709 : decode code 709 = .ok (.iadd, 1) := by decide +kernel
theorem d_La_law_710 : decode code 710 = .ok (.iaload, 1) := by decide +kernel
theorem d_La_law_711 : decode code 711 = .ok (.i2l, 1) := by decide +kernel
theorem d_La_law_712 : decode code 712 = .ok (.bipush 32, 2) := by decide +kernel
theorem d_La_law_714 : decode code 714 = .ok (.lshl, 1) := by decide +kernel
theorem d_La_law_715 : decode code 715 = .ok (.aload_n 0, 1) := by decide +kernel
theorem d_La_law_716 : decode code 716 = .ok (.iload 4, 2) := by decide +kernel
theorem d_La_law_718 : decode code 718 = .ok (.iconst 4, 1) := by decide +kernel
theorem d_La_law_719 : decode code 719 = .ok (.iadd, 1) := by decide +kernel
theorem d_La_law_720 : decode code 720 = .ok (.iaload, 1) := by decide +kernel
theorem d_La_law_721 : decode code 721 = .ok (.i2l, 1) := by decide +kernel
theorem d_La_law_722 : decode code 722 = .ok (.ldc2_w 89, 3) := by decide +kernel
theorem d_La_law_725 : decode code 725 = .ok (.land, 1) := by decide +kernel
theorem d_La_law_726 : decode code 726 = .ok (.lor, 1) := by decide +kernel
theorem d_La_law_727 : decode code 727 = .ok (.aload_n 0, 1) := by decide +kernel
theorem d_La_law_728 : decode code 728 = .ok (.iload 4, 2) := by decide +kernel
theorem d_La_law_730 : decode code 730 = .ok (.iconst 5, 1) := by decide +kernel
theorem d_La_law_731 : decode code 731 = .ok (.iadd, 1) := by decide +kernel
theorem d_La_law_732 : decode code 732 = .ok (.iaload, 1) := by decide +kernel
theorem d_La_law_733 : decode code 733 = .ok (.aload_n 3, 1) := by decide +kernel
theorem d_La_law_734 : decode code 734 = .ok (.invokestatic 103, 3) := by decide +kernel
theorem d_La_law_737 : decode code 737 = .ok (.istore 5, 2) := by decide +kernel
theorem d_La_law_739 : decode code 739 = .ok (.aload_n 2, 1) := by decide +kernel
theorem d_La_law_740 : decode code 740 = .ok (.aload_n 0, 1) := by decide +kernel
theorem d_La_law_741 : decode code 741 = .ok (.iload 4, 2) := by decide +kernel
theorem d_La_law_743 : decode code 743 = .ok (.iconst 1, 1) := by decide +kernel
theorem d_La_law_744 : decode code 744 = .ok (.iadd, 1) := by decide +kernel
theorem d_La_law_745 : decode code 745 = .ok (.iaload, 1) := by decide +kernel
theorem d_La_law_746 : decode code 746 = .ok (.aload_n 0, 1) := by decide +kernel
theorem d_La_law_747 : decode code 747 = .ok (.iload 4, 2) := by decide +kernel
theorem d_La_law_749 : decode code 749 = .ok (.iconst 2, 1) := by decide +kernel
theorem d_La_law_750 : decode code 750 = .ok (.iadd, 1) := by decide +kernel
theorem d_La_law_751 : decode code 751 = .ok (.iaload, 1) := by decide +kernel
theorem d_La_law_752 : decode code 752 = .ok (.aload_n 0, 1) := by decide +kernel
theorem d_La_law_753 : decode code 753 = .ok (.iload 4, 2) := by decide +kernel
theorem d_La_law_755 : decode code 755 = .ok (.iconst 3, 1) := by decide +kernel
theorem d_La_law_756 : decode code 756 = .ok (.iadd, 1) := by decide +kernel
theorem d_La_law_757 : decode code 757 = .ok (.iaload, 1) := by decide +kernel
theorem d_La_law_758 : decode code 758 = .ok (.i2l, 1) := by decide +kernel
theorem d_La_law_759 : decode code 759 = .ok (.bipush 32, 2) := by decide +kernel
theorem d_La_law_761 : decode code 761 = .ok (.lshl, 1) := by decide +kernel
theorem d_La_law_762 : decode code 762 = .ok (.aload_n 0, 1) := by decide +kernel
theorem d_La_law_763 : decode code 763 = .ok (.iload 4, 2) := by decide +kernel
theorem d_La_law_765 : decode code 765 = .ok (.iconst 4, 1) := by decide +kernel
theorem d_La_law_766 : decode code 766 = .ok (.iadd, 1) := by decide +kernel
theorem d_La_law_767 : decode code 767 = .ok (.iaload, 1) := by decide +kernel
theorem d_La_law_768 : decode code 768 = .ok (.i2l, 1) := by decide +kernel
theorem d_La_law_769 : decode code 769 = .ok (.ldc2_w 89, 3) := by decide +kernel
theorem d_La_law_772 : decode code 772 = .ok (.land, 1) := by decide +kernel
theorem d_La_law_773 : decode code 773 = .ok (.lor, 1) := by decide +kernel
theorem d_La_law_774 : decode code 774 = .ok (.aload_n 0, 1) := by decide +kernel
theorem d_La_law_775 : decode code 775 = .ok (.iload 4, 2) := by decide +kernel
theorem d_La_law_777 : decode code 777 = .ok (.iconst 5, 1) := by decide +kernel
theorem d_La_law_778 : decode code 778 = .ok (.iadd, 1) := by decide +kernel
theorem d_La_law_779 : decode code 779 = .ok (.iaload, 1) := by decide +kernel
theorem d_La_law_780 : decode code 780 = .ok (.invokevirtual 106, 3) := by decide +kernel
theorem d_La_law_783 : decode code 783 = .ok (.istore 6, 2) := by decide +kernel
theorem d_La_law_785 : decode code 785 = .ok (.aload_n 2, 1) := by decide +kernel
theorem d_La_law_786 : decode code 786 = .ok (.invokevirtual 76, 3) := by decide +kernel
theorem d_La_law_789 : decode code 789 = .ok (.iload 5, 2) := by decide +kernel
theorem d_La_law_791 : decode code 791 = .ok (.if_icmp .eq 5, 3) := by decide +kernel
theorem d_La_law_794 : decode code 794 = .ok (.iconst 0, 1) := by decide +kernel
theorem d_La_law_795 : decode code 795 = .ok (.ireturn, 1) := by decide +kernel
theorem d_La_law_796 : decode code 796 = .ok (.iload 5, 2) := by decide +kernel
theorem d_La_law_798 : decode code 798 = .ok (.ifCond .ne 15, 3) := by decide +kernel
theorem d_La_law_801 : decode code 801 = .ok (.aload_n 3, 1) := by decide +kernel
theorem d_La_law_802 : decode code 802 = .ok (.iconst 0, 1) := by decide +kernel
theorem d_La_law_803 : decode code 803 = .ok (.laload, 1) := by decide +kernel
theorem d_La_law_804 : decode code 804 = .ok (.iload 6, 2) := by decide +kernel
theorem d_La_law_806 : decode code 806 = .ok (.i2l, 1) := by decide +kernel
theorem d_La_law_807 : decode code 807 = .ok (.lcmp, 1) := by decide +kernel
theorem d_La_law_808 : decode code 808 = .ok (.ifCond .eq 5, 3) := by decide +kernel
theorem d_La_law_811 : decode code 811 = .ok (.iconst 0, 1) := by decide +kernel
theorem d_La_law_812 : decode code 812 = .ok (.ireturn, 1) := by decide +kernel
theorem d_La_law_813 : decode code 813 = .ok (.goto 402, 3) := by decide +kernel
theorem d_La_law_816 : decode code 816 = .ok (.aload_n 1, 1) := by decide +kernel
theorem d_La_law_817 : decode code 817 = .ok (.aload_n 0, 1) := by decide +kernel
theorem d_La_law_818 : decode code 818 = .ok (.iload 4, 2) := by decide +kernel
theorem d_La_law_820 : decode code 820 = .ok (.iconst 1, 1) := by decide +kernel
theorem d_La_law_821 : decode code 821 = .ok (.iadd, 1) := by decide +kernel
theorem d_La_law_822 : decode code 822 = .ok (.iaload, 1) := by decide +kernel
theorem d_La_law_823 : decode code 823 = .ok (.aload_n 0, 1) := by decide +kernel
theorem d_La_law_824 : decode code 824 = .ok (.iload 4, 2) := by decide +kernel
theorem d_La_law_826 : decode code 826 = .ok (.iconst 2, 1) := by decide +kernel
theorem d_La_law_827 : decode code 827 = .ok (.iadd, 1) := by decide +kernel
theorem d_La_law_828 : decode code 828 = .ok (.iaload, 1) := by decide +kernel
theorem d_La_law_829 : decode code 829 = .ok (.aload_n 0, 1) := by decide +kernel
theorem d_La_law_830 : decode code 830 = .ok (.iload 4, 2) := by decide +kernel
theorem d_La_law_832 : decode code 832 = .ok (.iconst 3, 1) := by decide +kernel
theorem d_La_law_833 : decode code 833 = .ok (.iadd, 1) := by decide +kernel
theorem d_La_law_834 : decode code 834 = .ok (.iaload, 1) := by decide +kernel
theorem d_La_law_835 : decode code 835 = .ok (.ifCond .eq 7, 3) := by decide +kernel
theorem d_La_law_838 : decode code 838 = .ok (.iconst 1, 1) := by decide +kernel
theorem d_La_law_839 : decode code 839 = .ok (.goto 4, 3) := by decide +kernel
theorem d_La_law_842 : decode code 842 = .ok (.iconst 0, 1) := by decide +kernel
theorem d_La_law_843 : decode code 843 = .ok (.aload_n 0, 1) := by decide +kernel
theorem d_La_law_844 : decode code 844 = .ok (.iload 4, 2) := by decide +kernel
theorem d_La_law_846 : decode code 846 = .ok (.iconst 4, 1) := by decide +kernel
theorem d_La_law_847 : decode code 847 = .ok (.iadd, 1) := by decide +kernel
theorem d_La_law_848 : decode code 848 = .ok (.iaload, 1) := by decide +kernel
theorem d_La_law_849 : decode code 849 = .ok (.aload_n 3, 1) := by decide +kernel
theorem d_La_law_850 : decode code 850 = .ok (.invokestatic 107, 3) := by decide +kernel
theorem d_La_law_853 : decode code 853 = .ok (.istore 5, 2) := by decide +kernel
theorem d_La_law_855 : decode code 855 = .ok (.aload_n 2, 1) := by decide +kernel
theorem d_La_law_856 : decode code 856 = .ok (.aload_n 0, 1) := by decide +kernel
theorem d_La_law_857 : decode code 857 = .ok (.iload 4, 2) := by decide +kernel
theorem d_La_law_859 : decode code 859 = .ok (.iconst 1, 1) := by decide +kernel
theorem d_La_law_860 : decode code 860 = .ok (.iadd, 1) := by decide +kernel
theorem d_La_law_861 : decode code 861 = .ok (.iaload, 1) := by decide +kernel
theorem d_La_law_862 : decode code 862 = .ok (.aload_n 0, 1) := by decide +kernel
theorem d_La_law_863 : decode code 863 = .ok (.iload 4, 2) := by decide +kernel
theorem d_La_law_865 : decode code 865 = .ok (.iconst 2, 1) := by decide +kernel
theorem d_La_law_866 : decode code 866 = .ok (.iadd, 1) := by decide +kernel
theorem d_La_law_867 : decode code 867 = .ok (.iaload, 1) := by decide +kernel
theorem d_La_law_868 : decode code 868 = .ok (.aload_n 0, 1) := by decide +kernel
theorem d_La_law_869 : decode code 869 = .ok (.iload 4, 2) := by decide +kernel
theorem d_La_law_871 : decode code 871 = .ok (.iconst 3, 1) := by decide +kernel
theorem d_La_law_872 : decode code 872 = .ok (.iadd, 1) := by decide +kernel
theorem d_La_law_873 : decode code 873 = .ok (.iaload, 1) := by decide +kernel
theorem d_La_law_874 : decode code 874 = .ok (.ifCond .eq 7, 3) := by decide +kernel
theorem d_La_law_877 : decode code 877 = .ok (.iconst 1, 1) := by decide +kernel
theorem d_La_law_878 : decode code 878 = .ok (.goto 4, 3) := by decide +kernel
theorem d_La_law_881 : decode code 881 = .ok (.iconst 0, 1) := by decide +kernel
theorem d_La_law_882 : decode code 882 = .ok (.aload_n 0, 1) := by decide +kernel
theorem d_La_law_883 : decode code 883 = .ok (.iload 4, 2) := by decide +kernel
theorem d_La_law_885 : decode code 885 = .ok (.iconst 4, 1) := by decide +kernel
theorem d_La_law_886 : decode code 886 = .ok (.iadd, 1) := by decide +kernel
theorem d_La_law_887 : decode code 887 = .ok (.iaload, 1) := by decide +kernel
theorem d_La_law_888 : decode code 888 = .ok (.invokevirtual 110, 3) := by decide +kernel
theorem d_La_law_891 : decode code 891 = .ok (.istore 6, 2) := by decide +kernel
theorem d_La_law_893 : decode code 893 = .ok (.aload_n 2, 1) := by decide +kernel
theorem d_La_law_894 : decode code 894 = .ok (.invokevirtual 76, 3) := by decide +kernel
theorem d_La_law_897 : decode code 897 = .ok (.iload 5, 2) := by decide +kernel
theorem d_La_law_899 : decode code 899 = .ok (.if_icmp .eq 5, 3) := by decide +kernel
theorem d_La_law_902 : decode code 902 = .ok (.iconst 0, 1) := by decide +kernel
theorem d_La_law_903 : decode code 903 = .ok (.ireturn, 1) := by decide +kernel
theorem d_La_law_904 : decode code 904 = .ok (.iload 5, 2) := by decide +kernel
theorem d_La_law_906 : decode code 906 = .ok (.ifCond .ne 15, 3) := by decide +kernel
theorem d_La_law_909 : decode code 909 = .ok (.aload_n 3, 1) := by decide +kernel
theorem d_La_law_910 : decode code 910 = .ok (.iconst 0, 1) := by decide +kernel
theorem d_La_law_911 : decode code 911 = .ok (.laload, 1) := by decide +kernel
theorem d_La_law_912 : decode code 912 = .ok (.iload 6, 2) := by decide +kernel
theorem d_La_law_914 : decode code 914 = .ok (.i2l, 1) := by decide +kernel
theorem d_La_law_915 : decode code 915 = .ok (.lcmp, 1) := by decide +kernel
theorem d_La_law_916 : decode code 916 = .ok (.ifCond .eq 5, 3) := by decide +kernel
theorem d_La_law_919 : decode code 919 = .ok (.iconst 0, 1) := by decide +kernel
theorem d_La_law_920 : decode code 920 = .ok (.ireturn, 1) := by decide +kernel
theorem d_La_law_921 : decode code 921 = .ok (.goto 294, 3) := by decide +kernel
theorem d_La_law_924 : decode code 924 = .ok (.aload_n 1, 1) := by decide +kernel
theorem d_La_law_925 : decode code 925 = .ok (.aload_n 0, 1) := by decide +kernel
theorem d_La_law_926 : decode code 926 = .ok (.iload 4, 2) := by decide +kernel
theorem d_La_law_928 : decode code 928 = .ok (.iconst 1, 1) := by decide +kernel
theorem d_La_law_929 : decode code 929 = .ok (.iadd, 1) := by decide +kernel
theorem d_La_law_930 : decode code 930 = .ok (.iaload, 1) := by decide +kernel
theorem d_La_law_931 : decode code 931 = .ok (.aload_n 3, 1) := by decide +kernel
theorem d_La_law_932 : decode code 932 = .ok (.invokestatic 111, 3) := by decide +kernel
theorem d_La_law_935 : decode code 935 = .ok (.istore 5, 2) := by decide +kernel
theorem d_La_law_937 : decode code 937 = .ok (.aload_n 2, 1) := by decide +kernel
theorem d_La_law_938 : decode code 938 = .ok (.aload_n 0, 1) := by decide +kernel
theorem d_La_law_939 : decode code 939 = .ok (.iload 4, 2) := by decide +kernel
theorem d_La_law_941 : decode code 941 = .ok (.iconst 1, 1) := by decide +kernel
theorem d_La_law_942 : decode code 942 = .ok (.iadd, 1) := by decide +kernel
theorem d_La_law_943 : decode code 943 = .ok (.iaload, 1) := by decide +kernel
theorem d_La_law_944 : decode code 944 = .ok (.invokevirtual 113, 3) := by decide +kernel
theorem d_La_law_947 : decode code 947 = .ok (.istore 6, 2) := by decide +kernel
theorem d_La_law_949 : decode code 949 = .ok (.aload_n 2, 1) := by decide +kernel
theorem d_La_law_950 : decode code 950 = .ok (.invokevirtual 76, 3) := by decide +kernel
theorem d_La_law_953 : decode code 953 = .ok (.iload 5, 2) := by decide +kernel
theorem d_La_law_955 : decode code 955 = .ok (.if_icmp .eq 5, 3) := by decide +kernel
theorem d_La_law_958 : decode code 958 = .ok (.iconst 0, 1) := by decide +kernel
theorem d_La_law_959 : decode code 959 = .ok (.ireturn, 1) := by decide +kernel
theorem d_La_law_960 : decode code 960 = .ok (.iload 5, 2) := by decide +kernel
theorem d_La_law_962 : decode code 962 = .ok (.ifCond .ne 15, 3) := by decide +kernel
theorem d_La_law_965 : decode code 965 = .ok (.aload_n 3, 1) := by decide +kernel
theorem d_La_law_966 : decode code 966 = .ok (.iconst 0, 1) := by decide +kernel
theorem d_La_law_967 : decode code 967 = .ok (.laload, 1) := by decide +kernel
theorem d_La_law_968 : decode code 968 = .ok (.iload 6, 2) := by decide +kernel
theorem d_La_law_970 : decode code 970 = .ok (.i2l, 1) := by decide +kernel
theorem d_La_law_971 : decode code 971 = .ok (.lcmp, 1) := by decide +kernel
theorem d_La_law_972 : decode code 972 = .ok (.ifCond .eq 5, 3) := by decide +kernel
theorem d_La_law_975 : decode code 975 = .ok (.iconst 0, 1) := by decide +kernel
theorem d_La_law_976 : decode code 976 = .ok (.ireturn, 1) := by decide +kernel
theorem d_La_law_977 : decode code 977 = .ok (.goto 238, 3) := by decide +kernel
theorem d_La_law_980 : decode code 980 = .ok (.aload_n 1, 1) := by decide +kernel
theorem d_La_law_981 : decode code 981 = .ok (.aload_n 0, 1) := by decide +kernel
theorem d_La_law_982 : decode code 982 = .ok (.iload 4, 2) := by decide +kernel
theorem d_La_law_984 : decode code 984 = .ok (.iconst 1, 1) := by decide +kernel
theorem d_La_law_985 : decode code 985 = .ok (.iadd, 1) := by decide +kernel
theorem d_La_law_986 : decode code 986 = .ok (.iaload, 1) := by decide +kernel
theorem d_La_law_987 : decode code 987 = .ok (.aload_n 0, 1) := by decide +kernel
theorem d_La_law_988 : decode code 988 = .ok (.iload 4, 2) := by decide +kernel
theorem d_La_law_990 : decode code 990 = .ok (.iconst 2, 1) := by decide +kernel
theorem d_La_law_991 : decode code 991 = .ok (.iadd, 1) := by decide +kernel
theorem d_La_law_992 : decode code 992 = .ok (.iaload, 1) := by decide +kernel
theorem d_La_law_993 : decode code 993 = .ok (.aload_n 3, 1) := by decide +kernel
theorem d_La_law_994 : decode code 994 = .ok (.invokestatic 114, 3) := by decide +kernel
theorem d_La_law_997 : decode code 997 = .ok (.istore 5, 2) := by decide +kernel
theorem d_La_law_999 : decode code 999 = .ok (.aload_n 2, 1) := by decide +kernel
theorem d_La_law_1000 : decode code 1000 = .ok (.aload_n 0, 1) := by decide +kernel
theorem d_La_law_1001 : decode code 1001 = .ok (.iload 4, 2) := by decide +kernel
theorem d_La_law_1003 : decode code 1003 = .ok (.iconst 1, 1) := by decide +kernel
theorem d_La_law_1004 : decode code 1004 = .ok (.iadd, 1) := by decide +kernel
theorem d_La_law_1005 : decode code 1005 = .ok (.iaload, 1) := by decide +kernel
theorem d_La_law_1006 : decode code 1006 = .ok (.aload_n 0, 1) := by decide +kernel
theorem d_La_law_1007 : decode code 1007 = .ok (.iload 4, 2) := by decide +kernel
theorem d_La_law_1009 : decode code 1009 = .ok (.iconst 2, 1) := by decide +kernel
theorem d_La_law_1010 : decode code 1010 = .ok (.iadd, 1) := by decide +kernel
theorem d_La_law_1011 : decode code 1011 = .ok (.iaload, 1) := by decide +kernel
theorem d_La_law_1012 : decode code 1012 = .ok (.invokevirtual 116, 3) := by decide +kernel
theorem d_La_law_1015 : decode code 1015 = .ok (.istore 6, 2) := by decide +kernel
theorem d_La_law_1017 : decode code 1017 = .ok (.aload_n 2, 1) := by decide +kernel
theorem d_La_law_1018 : decode code 1018 = .ok (.invokevirtual 76, 3) := by decide +kernel
theorem d_La_law_1021 : decode code 1021 = .ok (.iload 5, 2) := by decide +kernel
theorem d_La_law_1023 : decode code 1023 = .ok (.if_icmp .eq 5, 3) := by decide +kernel
theorem d_La_law_1026 : decode code 1026 = .ok (.iconst 0, 1) := by decide +kernel
theorem d_La_law_1027 : decode code 1027 = .ok (.ireturn, 1) := by decide +kernel
theorem d_La_law_1028 : decode code 1028 = .ok (.iload 5, 2) := by decide +kernel
theorem d_La_law_1030 : decode code 1030 = .ok (.ifCond .ne 15, 3) := by decide +kernel
theorem d_La_law_1033 : decode code 1033 = .ok (.aload_n 3, 1) := by decide +kernel
theorem d_La_law_1034 : decode code 1034 = .ok (.iconst 0, 1) := by decide +kernel
theorem d_La_law_1035 : decode code 1035 = .ok (.laload, 1) := by decide +kernel
theorem d_La_law_1036 : decode code 1036 = .ok (.iload 6, 2) := by decide +kernel
theorem d_La_law_1038 : decode code 1038 = .ok (.i2l, 1) := by decide +kernel
theorem d_La_law_1039 : decode code 1039 = .ok (.lcmp, 1) := by decide +kernel
theorem d_La_law_1040 : decode code 1040 = .ok (.ifCond .eq 5, 3) := by decide +kernel
theorem d_La_law_1043 : decode code 1043 = .ok (.iconst 0, 1) := by decide +kernel
theorem d_La_law_1044 : decode code 1044 = .ok (.ireturn, 1) := by decide +kernel
theorem d_La_law_1045 : decode code 1045 = .ok (.goto 170, 3) := by decide +kernel
theorem d_La_law_1048 : decode code 1048 = .ok (.aload_n 1, 1) := by decide +kernel
theorem d_La_law_1049 : decode code 1049 = .ok (.aload_n 0, 1) := by decide +kernel
theorem d_La_law_1050 : decode code 1050 = .ok (.iload 4, 2) := by decide +kernel
theorem d_La_law_1052 : decode code 1052 = .ok (.iconst 1, 1) := by decide +kernel
theorem d_La_law_1053 : decode code 1053 = .ok (.iadd, 1) := by decide +kernel
theorem d_La_law_1054 : decode code 1054 = .ok (.iaload, 1) := by decide +kernel
theorem d_La_law_1055 : decode code 1055 = .ok (.aload_n 0, 1) := by decide +kernel
theorem d_La_law_1056 : decode code 1056 = .ok (.iload 4, 2) := by decide +kernel
theorem d_La_law_1058 : decode code 1058 = .ok (.iconst 2, 1) := by decide +kernel
theorem d_La_law_1059 : decode code 1059 = .ok (.iadd, 1) := by decide +kernel
theorem d_La_law_1060 : decode code 1060 = .ok (.iaload, 1) := by decide +kernel
theorem d_La_law_1061 : decode code 1061 = .ok (.aload_n 3, 1) := by decide +kernel
theorem d_La_law_1062 : decode code 1062 = .ok (.invokestatic 117, 3) := by decide +kernel
theorem d_La_law_1065 : decode code 1065 = .ok (.istore 5, 2) := by decide +kernel
theorem d_La_law_1067 : decode code 1067 = .ok (.aload_n 2, 1) := by decide +kernel
theorem d_La_law_1068 : decode code 1068 = .ok (.aload_n 0, 1) := by decide +kernel
theorem d_La_law_1069 : decode code 1069 = .ok (.iload 4, 2) := by decide +kernel
theorem d_La_law_1071 : decode code 1071 = .ok (.iconst 1, 1) := by decide +kernel
theorem d_La_law_1072 : decode code 1072 = .ok (.iadd, 1) := by decide +kernel
theorem d_La_law_1073 : decode code 1073 = .ok (.iaload, 1) := by decide +kernel
theorem d_La_law_1074 : decode code 1074 = .ok (.aload_n 0, 1) := by decide +kernel
theorem d_La_law_1075 : decode code 1075 = .ok (.iload 4, 2) := by decide +kernel
theorem d_La_law_1077 : decode code 1077 = .ok (.iconst 2, 1) := by decide +kernel
theorem d_La_law_1078 : decode code 1078 = .ok (.iadd, 1) := by decide +kernel
theorem d_La_law_1079 : decode code 1079 = .ok (.iaload, 1) := by decide +kernel
theorem d_La_law_1080 : decode code 1080 = .ok (.invokevirtual 119, 3) := by decide +kernel
theorem d_La_law_1083 : decode code 1083 = .ok (.istore 6, 2) := by decide +kernel
theorem d_La_law_1085 : decode code 1085 = .ok (.aload_n 2, 1) := by decide +kernel
theorem d_La_law_1086 : decode code 1086 = .ok (.invokevirtual 76, 3) := by decide +kernel
theorem d_La_law_1089 : decode code 1089 = .ok (.iload 5, 2) := by decide +kernel
theorem d_La_law_1091 : decode code 1091 = .ok (.if_icmp .eq 5, 3) := by decide +kernel
theorem d_La_law_1094 : decode code 1094 = .ok (.iconst 0, 1) := by decide +kernel
theorem d_La_law_1095 : decode code 1095 = .ok (.ireturn, 1) := by decide +kernel
theorem d_La_law_1096 : decode code 1096 = .ok (.iload 5, 2) := by decide +kernel
theorem d_La_law_1098 : decode code 1098 = .ok (.ifCond .ne 15, 3) := by decide +kernel
theorem d_La_law_1101 : decode code 1101 = .ok (.aload_n 3, 1) := by decide +kernel
theorem d_La_law_1102 : decode code 1102 = .ok (.iconst 0, 1) := by decide +kernel
theorem d_La_law_1103 : decode code 1103 = .ok (.laload, 1) := by decide +kernel
theorem d_La_law_1104 : decode code 1104 = .ok (.iload 6, 2) := by decide +kernel
theorem d_La_law_1106 : decode code 1106 = .ok (.i2l, 1) := by decide +kernel
theorem d_La_law_1107 : decode code 1107 = .ok (.lcmp, 1) := by decide +kernel
theorem d_La_law_1108 : decode code 1108 = .ok (.ifCond .eq 5, 3) := by decide +kernel
theorem d_La_law_1111 : decode code 1111 = .ok (.iconst 0, 1) := by decide +kernel
theorem d_La_law_1112 : decode code 1112 = .ok (.ireturn, 1) := by decide +kernel
theorem d_La_law_1113 : decode code 1113 = .ok (.goto 102, 3) := by decide +kernel
theorem d_La_law_1116 : decode code 1116 = .ok (.aload_n 1, 1) := by decide +kernel
theorem d_La_law_1117 : decode code 1117 = .ok (.aload_n 3, 1) := by decide +kernel
theorem d_La_law_1118 : decode code 1118 = .ok (.invokestatic 120, 3) := by decide +kernel
theorem d_La_law_1121 : decode code 1121 = .ok (.istore 5, 2) := by decide +kernel
theorem d_La_law_1123 : decode code 1123 = .ok (.aload_n 2, 1) := by decide +kernel
theorem d_La_law_1124 : decode code 1124 = .ok (.invokevirtual 123, 3) := by decide +kernel
theorem d_La_law_1127 : decode code 1127 = .ok (.istore 6, 2) := by decide +kernel
theorem d_La_law_1129 : decode code 1129 = .ok (.aload_n 2, 1) := by decide +kernel
theorem d_La_law_1130 : decode code 1130 = .ok (.invokevirtual 76, 3) := by decide +kernel
theorem d_La_law_1133 : decode code 1133 = .ok (.iload 5, 2) := by decide +kernel
theorem d_La_law_1135 : decode code 1135 = .ok (.if_icmp .eq 5, 3) := by decide +kernel
theorem d_La_law_1138 : decode code 1138 = .ok (.iconst 0, 1) := by decide +kernel
theorem d_La_law_1139 : decode code 1139 = .ok (.ireturn, 1) := by decide +kernel
theorem d_La_law_1140 : decode code 1140 = .ok (.iload 5, 2) := by decide +kernel
theorem d_La_law_1142 : decode code 1142 = .ok (.ifCond .ne 15, 3) := by decide +kernel
theorem d_La_law_1145 : decode code 1145 = .ok (.aload_n 3, 1) := by decide +kernel
theorem d_La_law_1146 : decode code 1146 = .ok (.iconst 0, 1) := by decide +kernel
theorem d_La_law_1147 : decode code 1147 = .ok (.laload, 1) := by decide +kernel
theorem d_La_law_1148 : decode code 1148 = .ok (.iload 6, 2) := by decide +kernel
theorem d_La_law_1150 : decode code 1150 = .ok (.i2l, 1) := by decide +kernel
theorem d_La_law_1151 : decode code 1151 = .ok (.lcmp, 1) := by decide +kernel
theorem d_La_law_1152 : decode code 1152 = .ok (.ifCond .eq 5, 3) := by decide +kernel
theorem d_La_law_1155 : decode code 1155 = .ok (.iconst 0, 1) := by decide +kernel
theorem d_La_law_1156 : decode code 1156 = .ok (.ireturn, 1) := by decide +kernel
theorem d_La_law_1157 : decode code 1157 = .ok (.goto 58, 3) := by decide +kernel
theorem d_La_law_1160 : decode code 1160 = .ok (.aload_n 1, 1) := by decide +kernel
theorem d_La_law_1161 : decode code 1161 = .ok (.aload_n 0, 1) := by decide +kernel
theorem d_La_law_1162 : decode code 1162 = .ok (.iload 4, 2) := by decide +kernel
theorem d_La_law_1164 : decode code 1164 = .ok (.iconst 1, 1) := by decide +kernel
theorem d_La_law_1165 : decode code 1165 = .ok (.iadd, 1) := by decide +kernel
theorem d_La_law_1166 : decode code 1166 = .ok (.iaload, 1) := by decide +kernel
theorem d_La_law_1167 : decode code 1167 = .ok (.aload_n 3, 1) := by decide +kernel
theorem d_La_law_1168 : decode code 1168 = .ok (.invokestatic 124, 3) := by decide +kernel
theorem d_La_law_1171 : decode code 1171 = .ok (.istore 5, 2) := by decide +kernel
theorem d_La_law_1173 : decode code 1173 = .ok (.aload_n 2, 1) := by decide +kernel
theorem d_La_law_1174 : decode code 1174 = .ok (.aload_n 0, 1) := by decide +kernel
theorem d_La_law_1175 : decode code 1175 = .ok (.iload 4, 2) := by decide +kernel
theorem d_La_law_1177 : decode code 1177 = .ok (.iconst 1, 1) := by decide +kernel
theorem d_La_law_1178 : decode code 1178 = .ok (.iadd, 1) := by decide +kernel
theorem d_La_law_1179 : decode code 1179 = .ok (.iaload, 1) := by decide +kernel
theorem d_La_law_1180 : decode code 1180 = .ok (.invokevirtual 126, 3) := by decide +kernel
theorem d_La_law_1183 : decode code 1183 = .ok (.lstore 6, 2) := by decide +kernel
theorem d_La_law_1185 : decode code 1185 = .ok (.aload_n 2, 1) := by decide +kernel
theorem d_La_law_1186 : decode code 1186 = .ok (.invokevirtual 76, 3) := by decide +kernel
theorem d_La_law_1189 : decode code 1189 = .ok (.iload 5, 2) := by decide +kernel
theorem d_La_law_1191 : decode code 1191 = .ok (.if_icmp .eq 5, 3) := by decide +kernel
theorem d_La_law_1194 : decode code 1194 = .ok (.iconst 0, 1) := by decide +kernel
theorem d_La_law_1195 : decode code 1195 = .ok (.ireturn, 1) := by decide +kernel
theorem d_La_law_1196 : decode code 1196 = .ok (.iload 5, 2) := by decide +kernel
theorem d_La_law_1198 : decode code 1198 = .ok (.ifCond .ne 14, 3) := by decide +kernel
theorem d_La_law_1201 : decode code 1201 = .ok (.aload_n 3, 1) := by decide +kernel
theorem d_La_law_1202 : decode code 1202 = .ok (.iconst 0, 1) := by decide +kernel
theorem d_La_law_1203 : decode code 1203 = .ok (.laload, 1) := by decide +kernel
theorem d_La_law_1204 : decode code 1204 = .ok (.lload 6, 2) := by decide +kernel
theorem d_La_law_1206 : decode code 1206 = .ok (.lcmp, 1) := by decide +kernel
theorem d_La_law_1207 : decode code 1207 = .ok (.ifCond .eq 5, 3) := by decide +kernel
theorem d_La_law_1210 : decode code 1210 = .ok (.iconst 0, 1) := by decide +kernel
theorem d_La_law_1211 : decode code 1211 = .ok (.ireturn, 1) := by decide +kernel
theorem d_La_law_1212 : decode code 1212 = .ok (.goto 3, 3) := by decide +kernel
theorem d_La_law_1215 : decode code 1215 = .ok (.iinc 4 8, 3) := by decide +kernel
theorem d_La_law_1218 : decode code 1218 = .ok (.goto (-1195), 3) := by decide +kernel
theorem d_La_law_1221 : decode code 1221 = .ok (.iconst 1, 1) := by decide +kernel
theorem d_La_law_1222 : decode code 1222 = .ok (.ireturn, 1) := by decide +kernel
set_option maxHeartbeats 4000000 in
set_option maxRecDepth 100000 in
theorem la_put {p : Program} {e : Env} {R : Room} {s : State} {m : MethodId} {args : Array Value} {below : List Frame} {meth : Method} {c : Code} {cells slots : Nat} {Q : State → Prop} (l : Launch) (K : pw_K) (xa ma oa : Nat) {b Ln : Nat} {xs : Nat → Int32} (X : pw_X p s m args meth c K R_La code 8) (hKs : pZ K = s) (hXs : va_X b Ln xs s s.heap) (hbl : b < s.heap.size) (hL : Ln < 2 ^ 31) (hR : 1100 ≤ R.frames ∧ 70000 ≤ R.locals ∧ cells + 1000 ≤ R.cells ∧ slots + 12000 ≤ R.slots) (n : Nat) (hn : 8 * n + 8 ≤ Ln) (f : pw_F) (J : pw_F → Prop) (hst : st_put l K xa ma oa (xs (8 * n + 1)) (xs (8 * n + 2)) (xs (8 * n + 3)) f J) (kk : ∀ (f2 : pw_F) (H2 : Heap) (lc2 : List Loc) (ls : Array Slot), lv_has ls 8 [(0, .ref b), (1, .ref xa), (2, .ref ma), (3, .ref oa), (4, .int (nI (8 * n)))] → pw_S K f2 H2 lc2 → J f2 → bas K xa ma oa f2 → W p l e R s m args below meth c H2 lc2 (cells + 1000) (slots + 12000) Q (F0 m 1215 ls [])) (H0 : Heap) (lc0 : List Loc) (ls : Array Slot) (hl : lv_has ls 8 [(0, .ref b), (1, .ref xa), (2, .ref ma), (3, .ref oa), (4, .int (nI (8 * n)))]) (hS : pw_S K f H0 lc0) : W p l e R s m args below meth c H0 lc0 cells slots Q (F0 m 112 ls []) := by
  have hx := X.1
  have hb := X.2.1
  obtain ⟨kc, Mid, ⟨d1, mc1, ms1, hd1, hW⟩, hMM⟩ := hst
  refine lv_aload_n hx hb d_La_law_112 rfl (lv_at hl 1 rfl) ?_
  refine lv_aload_n hx hb d_La_law_113 rfl (lv_at hl 0 rfl) ?_
  refine lv_iload hx hb d_La_law_114 (lv_at hl 4 rfl) ?_
  refine lv_iconst (v := 1) hx hb d_La_law_116 (by decide) ?_
  refine lv_iadd hx hb d_La_law_117 ?_
  refine lv_topi (fun yy ey => ?_)
  obtain rfl : yy = nI (8 * n + 1) := by rw [ey]; exact nI_add (8 * n) 1
  clear ey
  refine pw_sld X hKs hS hXs hbl (vp_in_nI (by omega) (by omega)) d_La_law_118 ?_
  refine lv_topi (fun yy ey => ?_)
  obtain rfl : yy = xs (8 * n + 1) := by rw [ey]; rw [nI_clamp (by omega)]
  clear ey
  refine lv_aload_n hx hb d_La_law_119 rfl (lv_at hl 0 rfl) ?_
  refine lv_iload hx hb d_La_law_120 (lv_at hl 4 rfl) ?_
  refine lv_iconst (v := 2) hx hb d_La_law_122 (by decide) ?_
  refine lv_iadd hx hb d_La_law_123 ?_
  refine lv_topi (fun yy ey => ?_)
  obtain rfl : yy = nI (8 * n + 2) := by rw [ey]; exact nI_add (8 * n) 2
  clear ey
  refine pw_sld X hKs hS hXs hbl (vp_in_nI (by omega) (by omega)) d_La_law_124 ?_
  refine lv_topi (fun yy ey => ?_)
  obtain rfl : yy = xs (8 * n + 2) := by rw [ey]; rw [nI_clamp (by omega)]
  clear ey
  refine lv_aload_n hx hb d_La_law_125 rfl (lv_at hl 0 rfl) ?_
  refine lv_iload hx hb d_La_law_126 (lv_at hl 4 rfl) ?_
  refine lv_iconst (v := 3) hx hb d_La_law_128 (by decide) ?_
  refine lv_iadd hx hb d_La_law_129 ?_
  refine lv_topi (fun yy ey => ?_)
  obtain rfl : yy = nI (8 * n + 3) := by rw [ey]; exact nI_add (8 * n) 3
  clear ey
  refine pw_sld X hKs hS hXs hbl (vp_in_nI (by omega) (by omega)) d_La_law_130 ?_
  refine lv_topi (fun yy ey => ?_)
  obtain rfl : yy = xs (8 * n + 3) := by rw [ey]; rw [nI_clamp (by omega)]
  clear ey
  obtain ⟨PW, hW1, hPW⟩ := hW (Array.size H0)
  refine pw_callSW X hS (As := [.ref xa, .int (xs (8 * n + 1)), .int (xs (8 * n + 2)), .int (xs (8 * n + 3))]) (rest := []) hW1 rfl w_cd_La_put w_ini_La w_ml_La_70 w_st_La_put hd_La_put rfl hl.1 (Nat.le_of_ble_eq_true rfl) d_La_law_131 ⟨by show d1 + 1 ≤ R.frames; omega, by show 8 + (5 + 11) + 64 * d1 ≤ R.locals; omega⟩ ⟨by show cells + mc1 ≤ R.cells; omega, by show slots + ms1 ≤ R.slots; omega⟩ (fun v1 f1 H1 lc1 hp1 hS1 => ?_)
  obtain ⟨rfl, hmid⟩ := hPW _ _ _ hp1
  clear hW hPW hp1 hS
  obtain ⟨⟨⟨fs1, hxa1⟩, ⟨th1, wr1, L1, Z1, S1, G1, P1, Ex1, O1, T1, V1, hm1⟩, hoa1⟩, ⟨d2, mc2, ms2, hd2, hM⟩⟩ := hMM f1 hmid
  refine lv_istore (lv' := [(5, .int kc), (0, .ref b), (1, .ref xa), (2, .ref ma), (3, .ref oa), (4, .int (nI (8 * n)))]) hx hb d_La_law_134 hl (by decide) rfl (fun ls hl => ?_)
  refine lv_aload_n hx hb d_La_law_136 rfl (lv_at hl 3 rfl) ?_
  refine lv_aload_n hx hb d_La_law_137 rfl (lv_at hl 1 rfl) ?_
  refine lv_iload hx hb d_La_law_138 (lv_at hl 5 rfl) ?_
  refine lv_iconst (v := 1) hx hb d_La_law_140 (by decide) ?_
  refine lv_iadd hx hb d_La_law_141 ?_
  refine lv_topi (fun yy ey => ?_)
  obtain rfl : yy = nI (8 * n + 1) := by rw [ey]; exact nI_add (8 * n) 1
  clear ey
  refine pw_sld X hKs hS1 hXs hbl (vp_in_nI (by omega) (by omega)) d_La_law_142 ?_
  refine lv_topi (fun yy ey => ?_)
  obtain rfl : yy = xs (8 * n + 1) := by rw [ey]; rw [nI_clamp (by omega)]
  clear ey
  refine lv_aload_n hx hb d_La_law_143 rfl (lv_at hl 1 rfl) ?_
  refine lv_iload hx hb d_La_law_144 (lv_at hl 5 rfl) ?_
  refine lv_iconst (v := 2) hx hb d_La_law_146 (by decide) ?_
  refine lv_iadd hx hb d_La_law_147 ?_
  refine lv_topi (fun yy ey => ?_)
  obtain rfl : yy = nI (8 * n + 2) := by rw [ey]; exact nI_add (8 * n) 2
  clear ey
  refine pw_sld X hKs hS1 hXs hbl (vp_in_nI (by omega) (by omega)) d_La_law_148 ?_
  refine lv_topi (fun yy ey => ?_)
  obtain rfl : yy = xs (8 * n + 2) := by rw [ey]; rw [nI_clamp (by omega)]
  clear ey
  refine lv_aload_n hx hb d_La_law_149 rfl (lv_at hl 1 rfl) ?_
  refine lv_iload hx hb d_La_law_150 (lv_at hl 5 rfl) ?_
  refine lv_iconst (v := 3) hx hb d_La_law_152 (by decide) ?_
  refine lv_iadd hx hb d_La_law_153 ?_
  refine lv_topi (fun yy ey => ?_)
  obtain rfl : yy = nI (8 * n + 3) := by rw [ey]; exact nI_add (8 * n) 3
  clear ey
  refine pw_sld X hKs hS1 hXs hbl (vp_in_nI (by omega) (by omega)) d_La_law_154 ?_
  refine lv_topi (fun yy ey => ?_)
  obtain rfl : yy = xs (8 * n + 3) := by rw [ey]; rw [nI_clamp (by omega)]
  clear ey
  obtain ⟨PM, hM1, hPM⟩ := hM (Array.size H1)
  refine pw_callV X hS1 (As := [.int (xs (8 * n + 1)), .int (xs (8 * n + 2)), .int (xs (8 * n + 3))]) (rest := []) hM1 rfl w_cd_Mo_put w_ini_Mo w_ml_La_75 w_im_Mo_put w_se_Mo_put hm1.1 rfl hd_Mo_put rfl hl.1 (Nat.le_of_ble_eq_true rfl) d_La_law_155 ⟨by show d2 + 1 ≤ R.frames; omega, by show 8 + (5 + 11) + 64 * d2 ≤ R.locals; omega⟩ ⟨by show cells + mc1 + mc2 ≤ R.cells; omega, by show slots + ms1 + ms2 ≤ R.slots; omega⟩ (fun v2 f2 H2 lc2 hp2 hS2 => ?_)
  obtain ⟨rfl, hae⟩ := hPM _ _ _ hp2
  clear hM hPM hp2 hS1
  obtain ⟨gx, ⟨fs2, hxa2⟩, ⟨wr2, L2, Z2, S2, G2, P2, Ex2, O2, T2, V2, hm2⟩, ⟨go, hoa2, hgo⟩, hJ⟩ := hae
  refine lv_aload_n hx hb d_La_law_158 rfl (lv_at hl 3 rfl) ?_
  refine pw_callVR X hS2 (As := []) (rest := []) (r_Mo_thrown l K f2 ma (Array.size H2) kc wr2 L2 Z2 S2 G2 P2 Ex2 O2 T2 V2 hm2) rfl w_cd_Mo_thrown w_ini_Mo w_ml_La_76 w_im_Mo_thrown w_se_Mo_thrown hm2.1 rfl hd_Mo_thrown rfl hl.1 (Nat.le_of_ble_eq_true rfl) d_La_law_159 ⟨by show 1 + 1 ≤ R.frames; omega, by show 8 + (1 + 11) + 64 * 1 ≤ R.locals; omega⟩ ⟨by show cells + mc1 + mc2 ≤ R.cells; omega, by show slots + ms1 + ms2 ≤ R.slots; omega⟩ ?_
  refine lv_iload hx hb d_La_law_162 (lv_at hl 0 rfl) ?_
  refine lv_icmp_eq (tgt := 169) hx hb d_La_law_164 (by decide) (fun _ => ?_) (fun cw => absurd cw (not_not_intro rfl))
  refine lv_goto (tgt := 1215) hx hb d_La_law_169 (by decide) ?_
  refine W.widen (k := cells + 1000) (n := slots + 12000) (by show cells + mc1 + mc2 ≤ _; omega) (by show slots + ms1 + ms2 ≤ _; omega) ?_
  exact kk f2 H2 lc2 ls (lv_sub hl [1, 2, 3, 4, 5] rfl) hS2 hJ ⟨⟨fs2, hxa2⟩, ⟨kc, wr2, L2, Z2, S2, G2, P2, Ex2, O2, T2, V2, hm2⟩, ⟨go, hoa2⟩⟩
set_option maxHeartbeats 4000000 in
set_option maxRecDepth 100000 in
theorem la_degree {p : Program} {e : Env} {R : Room} {s : State} {m : MethodId} {args : Array Value} {below : List Frame} {meth : Method} {c : Code} {cells slots : Nat} {Q : State → Prop} (l : Launch) (K : pw_K) (xa ma oa : Nat) {b Ln : Nat} {xs : Nat → Int32} (X : pw_X p s m args meth c K R_La code 8) (hKs : pZ K = s) (hXs : va_X b Ln xs s s.heap) (hbl : b < s.heap.size) (hL : Ln < 2 ^ 31) (hR : 1100 ≤ R.frames ∧ 70000 ≤ R.locals ∧ cells + 1000 ≤ R.cells ∧ slots + 12000 ≤ R.slots) (n : Nat) (hn : 8 * n + 8 ≤ Ln) (f : pw_F) (J : pw_F → Prop) (hst : st_degree l K xa ma oa (xs (8 * n + 1)) f J) (kk : ∀ (f2 : pw_F) (H2 : Heap) (lc2 : List Loc) (ls : Array Slot), lv_has ls 8 [(0, .ref b), (1, .ref xa), (2, .ref ma), (3, .ref oa), (4, .int (nI (8 * n)))] → pw_S K f2 H2 lc2 → J f2 → bas K xa ma oa f2 → W p l e R s m args below meth c H2 lc2 (cells + 1000) (slots + 12000) Q (F0 m 1215 ls [])) (H0 : Heap) (lc0 : List Loc) (ls : Array Slot) (hl : lv_has ls 8 [(0, .ref b), (1, .ref xa), (2, .ref ma), (3, .ref oa), (4, .int (nI (8 * n)))]) (hS : pw_S K f H0 lc0) : W p l e R s m args below meth c H0 lc0 cells slots Q (F0 m 172 ls []) := by
  have hx := X.1
  have hb := X.2.1
  obtain ⟨kc, Mid, ⟨d1, mc1, ms1, hd1, hW⟩, hMM⟩ := hst
  refine lv_aload_n hx hb d_La_law_172 rfl (lv_at hl 1 rfl) ?_
  refine lv_aload_n hx hb d_La_law_173 rfl (lv_at hl 0 rfl) ?_
  refine lv_iload hx hb d_La_law_174 (lv_at hl 4 rfl) ?_
  refine lv_iconst (v := 1) hx hb d_La_law_176 (by decide) ?_
  refine lv_iadd hx hb d_La_law_177 ?_
  refine lv_topi (fun yy ey => ?_)
  obtain rfl : yy = nI (8 * n + 1) := by rw [ey]; exact nI_add (8 * n) 1
  clear ey
  refine pw_sld X hKs hS hXs hbl (vp_in_nI (by omega) (by omega)) d_La_law_178 ?_
  refine lv_topi (fun yy ey => ?_)
  obtain rfl : yy = xs (8 * n + 1) := by rw [ey]; rw [nI_clamp (by omega)]
  clear ey
  refine lv_aload_n hx hb d_La_law_179 rfl (lv_at hl 3 rfl) ?_
  obtain ⟨PW, hW1, hPW⟩ := hW (Array.size H0)
  refine pw_callSW X hS (As := [.ref xa, .int (xs (8 * n + 1)), .ref oa]) (rest := []) hW1 rfl w_cd_La_degree w_ini_La w_ml_La_79 w_st_La_degree hd_La_degree rfl hl.1 (Nat.le_of_ble_eq_true rfl) d_La_law_180 ⟨by show d1 + 1 ≤ R.frames; omega, by show 8 + (4 + 11) + 64 * d1 ≤ R.locals; omega⟩ ⟨by show cells + mc1 ≤ R.cells; omega, by show slots + ms1 ≤ R.slots; omega⟩ (fun v1 f1 H1 lc1 hp1 hS1 => ?_)
  obtain ⟨rfl, hmid⟩ := hPW _ _ _ hp1
  clear hW hPW hp1 hS
  obtain ⟨⟨⟨fs1, hxa1⟩, ⟨th1, wr1, L1, Z1, S1, G1, P1, Ex1, O1, T1, V1, hm1⟩, hoa1⟩, bb, ⟨d2, mc2, ms2, hd2, hM⟩⟩ := hMM f1 hmid
  refine lv_istore (lv' := [(5, .int kc), (0, .ref b), (1, .ref xa), (2, .ref ma), (3, .ref oa), (4, .int (nI (8 * n)))]) hx hb d_La_law_183 hl (by decide) rfl (fun ls hl => ?_)
  refine lv_aload_n hx hb d_La_law_185 rfl (lv_at hl 3 rfl) ?_
  refine lv_aload_n hx hb d_La_law_186 rfl (lv_at hl 1 rfl) ?_
  refine lv_iload hx hb d_La_law_187 (lv_at hl 5 rfl) ?_
  refine lv_iconst (v := 1) hx hb d_La_law_189 (by decide) ?_
  refine lv_iadd hx hb d_La_law_190 ?_
  refine lv_topi (fun yy ey => ?_)
  obtain rfl : yy = nI (8 * n + 1) := by rw [ey]; exact nI_add (8 * n) 1
  clear ey
  refine pw_sld X hKs hS1 hXs hbl (vp_in_nI (by omega) (by omega)) d_La_law_191 ?_
  refine lv_topi (fun yy ey => ?_)
  obtain rfl : yy = xs (8 * n + 1) := by rw [ey]; rw [nI_clamp (by omega)]
  clear ey
  obtain ⟨PM, hM1, hPM⟩ := hM (Array.size H1)
  refine pw_callV X hS1 (As := [.int (xs (8 * n + 1))]) (rest := []) hM1 rfl w_cd_Mo_degree w_ini_Mo w_ml_La_82 w_im_Mo_degree w_se_Mo_degree hm1.1 rfl hd_Mo_degree rfl hl.1 (Nat.le_of_ble_eq_true rfl) d_La_law_192 ⟨by show d2 + 1 ≤ R.frames; omega, by show 8 + (2 + 11) + 64 * d2 ≤ R.locals; omega⟩ ⟨by show cells + mc1 + mc2 ≤ R.cells; omega, by show slots + ms1 + ms2 ≤ R.slots; omega⟩ (fun v2 f2 H2 lc2 hp2 hS2 => ?_)
  obtain ⟨rfl, hae⟩ := hPM _ _ _ hp2
  clear hM hPM hp2 hS1
  obtain ⟨⟨fs2, hxa2⟩, ⟨wr2, L2, Z2, S2, G2, P2, Ex2, O2, T2, V2, hm2⟩, ⟨go, hoa2, hgo⟩, hJ⟩ := hae
  refine lv_istore (lv' := [(6, .int bb), (5, .int kc), (0, .ref b), (1, .ref xa), (2, .ref ma), (3, .ref oa), (4, .int (nI (8 * n)))]) hx hb d_La_law_195 hl (by decide) rfl (fun ls hl => ?_)
  refine lv_aload_n hx hb d_La_law_197 rfl (lv_at hl 4 rfl) ?_
  refine pw_callVR X hS2 (As := []) (rest := []) (r_Mo_thrown l K f2 ma (Array.size H2) kc wr2 L2 Z2 S2 G2 P2 Ex2 O2 T2 V2 hm2) rfl w_cd_Mo_thrown w_ini_Mo w_ml_La_76 w_im_Mo_thrown w_se_Mo_thrown hm2.1 rfl hd_Mo_thrown rfl hl.1 (Nat.le_of_ble_eq_true rfl) d_La_law_198 ⟨by show 1 + 1 ≤ R.frames; omega, by show 8 + (1 + 11) + 64 * 1 ≤ R.locals; omega⟩ ⟨by show cells + mc1 + mc2 ≤ R.cells; omega, by show slots + ms1 + ms2 ≤ R.slots; omega⟩ ?_
  refine lv_iload hx hb d_La_law_201 (lv_at hl 1 rfl) ?_
  refine lv_icmp_eq (tgt := 208) hx hb d_La_law_203 (by decide) (fun _ => ?_) (fun cw => absurd cw (not_not_intro rfl))
  refine lv_iload hx hb d_La_law_208 (lv_at hl 1 rfl) ?_
  refine lv_if_ne (tgt := 225) hx hb d_La_law_210 (by decide) (fun ck => ?_) (fun ck => ?_)
  · refine lv_goto (tgt := 1215) hx hb d_La_law_225 (by decide) ?_
    refine W.widen (k := cells + 1000) (n := slots + 12000) (by show cells + mc1 + mc2 ≤ _; omega) (by show slots + ms1 + ms2 ≤ _; omega) ?_
    exact kk f2 H2 lc2 ls (lv_sub hl [2, 3, 4, 5, 6] rfl) hS2 hJ ⟨⟨fs2, hxa2⟩, ⟨kc, wr2, L2, Z2, S2, G2, P2, Ex2, O2, T2, V2, hm2⟩, ⟨go, hoa2⟩⟩
  · refine lv_aload_n hx hb d_La_law_213 rfl (lv_at hl 5 rfl) ?_
    refine lv_iconst (v := 0) hx hb d_La_law_214 (by decide) ?_
    refine pw_lld X hS2 hoa2 (vp_in_nI (n := 0) (by decide) (by decide)) d_La_law_215 ?_
    refine lv_topl (fun yy ey => ?_)
    obtain rfl : yy = bb.toInt64 := by rw [ey]; exact hgo ck
    clear ey
    refine lv_iload hx hb d_La_law_216 (lv_at hl 0 rfl) ?_
    refine lv_i2l hx hb d_La_law_218 rfl ?_
    refine W.lcmp hx hb d_La_law_219 ?_
    refine lv_if_eq (tgt := 225) hx hb d_La_law_220 (by decide) (fun _ => ?_) (fun cw => absurd cw (not_not_intro ((lg_cmp_eq _ _).mpr rfl)))
    refine lv_goto (tgt := 1215) hx hb d_La_law_225 (by decide) ?_
    refine W.widen (k := cells + 1000) (n := slots + 12000) (by show cells + mc1 + mc2 ≤ _; omega) (by show slots + ms1 + ms2 ≤ _; omega) ?_
    exact kk f2 H2 lc2 ls (lv_sub hl [2, 3, 4, 5, 6] rfl) hS2 hJ ⟨⟨fs2, hxa2⟩, ⟨kc, wr2, L2, Z2, S2, G2, P2, Ex2, O2, T2, V2, hm2⟩, ⟨go, hoa2⟩⟩
set_option maxHeartbeats 4000000 in
set_option maxRecDepth 100000 in
theorem la_roots {p : Program} {e : Env} {R : Room} {s : State} {m : MethodId} {args : Array Value} {below : List Frame} {meth : Method} {c : Code} {cells slots : Nat} {Q : State → Prop} (l : Launch) (K : pw_K) (xa ma oa : Nat) {b Ln : Nat} {xs : Nat → Int32} (X : pw_X p s m args meth c K R_La code 8) (hKs : pZ K = s) (hXs : va_X b Ln xs s s.heap) (hbl : b < s.heap.size) (hL : Ln < 2 ^ 31) (hR : 1100 ≤ R.frames ∧ 70000 ≤ R.locals ∧ cells + 1000 ≤ R.cells ∧ slots + 12000 ≤ R.slots) (n : Nat) (hn : 8 * n + 8 ≤ Ln) (f : pw_F) (J : pw_F → Prop) (hst : st_roots l K xa ma oa (xs (8 * n + 1)) f J) (kk : ∀ (f2 : pw_F) (H2 : Heap) (lc2 : List Loc) (ls : Array Slot), lv_has ls 8 [(0, .ref b), (1, .ref xa), (2, .ref ma), (3, .ref oa), (4, .int (nI (8 * n)))] → pw_S K f2 H2 lc2 → J f2 → bas K xa ma oa f2 → W p l e R s m args below meth c H2 lc2 (cells + 1000) (slots + 12000) Q (F0 m 1215 ls [])) (H0 : Heap) (lc0 : List Loc) (ls : Array Slot) (hl : lv_has ls 8 [(0, .ref b), (1, .ref xa), (2, .ref ma), (3, .ref oa), (4, .int (nI (8 * n)))]) (hS : pw_S K f H0 lc0) : W p l e R s m args below meth c H0 lc0 cells slots Q (F0 m 228 ls []) := by
  have hx := X.1
  have hb := X.2.1
  obtain ⟨kc, Mid, ⟨d1, mc1, ms1, hd1, hW⟩, hMM⟩ := hst
  refine lv_aload_n hx hb d_La_law_228 rfl (lv_at hl 1 rfl) ?_
  refine lv_aload_n hx hb d_La_law_229 rfl (lv_at hl 0 rfl) ?_
  refine lv_iload hx hb d_La_law_230 (lv_at hl 4 rfl) ?_
  refine lv_iconst (v := 1) hx hb d_La_law_232 (by decide) ?_
  refine lv_iadd hx hb d_La_law_233 ?_
  refine lv_topi (fun yy ey => ?_)
  obtain rfl : yy = nI (8 * n + 1) := by rw [ey]; exact nI_add (8 * n) 1
  clear ey
  refine pw_sld X hKs hS hXs hbl (vp_in_nI (by omega) (by omega)) d_La_law_234 ?_
  refine lv_topi (fun yy ey => ?_)
  obtain rfl : yy = xs (8 * n + 1) := by rw [ey]; rw [nI_clamp (by omega)]
  clear ey
  refine lv_aload_n hx hb d_La_law_235 rfl (lv_at hl 3 rfl) ?_
  obtain ⟨PW, hW1, hPW⟩ := hW (Array.size H0)
  refine pw_callSW X hS (As := [.ref xa, .int (xs (8 * n + 1)), .ref oa]) (rest := []) hW1 rfl w_cd_La_roots w_ini_La w_ml_La_83 w_st_La_roots hd_La_roots rfl hl.1 (Nat.le_of_ble_eq_true rfl) d_La_law_236 ⟨by show d1 + 1 ≤ R.frames; omega, by show 8 + (4 + 11) + 64 * d1 ≤ R.locals; omega⟩ ⟨by show cells + mc1 ≤ R.cells; omega, by show slots + ms1 ≤ R.slots; omega⟩ (fun v1 f1 H1 lc1 hp1 hS1 => ?_)
  obtain ⟨rfl, hmid⟩ := hPW _ _ _ hp1
  clear hW hPW hp1 hS
  obtain ⟨⟨⟨fs1, hxa1⟩, ⟨th1, wr1, L1, Z1, S1, G1, P1, Ex1, O1, T1, V1, hm1⟩, hoa1⟩, bb, ⟨d2, mc2, ms2, hd2, hM⟩⟩ := hMM f1 hmid
  refine lv_istore (lv' := [(5, .int kc), (0, .ref b), (1, .ref xa), (2, .ref ma), (3, .ref oa), (4, .int (nI (8 * n)))]) hx hb d_La_law_239 hl (by decide) rfl (fun ls hl => ?_)
  refine lv_aload_n hx hb d_La_law_241 rfl (lv_at hl 3 rfl) ?_
  refine lv_aload_n hx hb d_La_law_242 rfl (lv_at hl 1 rfl) ?_
  refine lv_iload hx hb d_La_law_243 (lv_at hl 5 rfl) ?_
  refine lv_iconst (v := 1) hx hb d_La_law_245 (by decide) ?_
  refine lv_iadd hx hb d_La_law_246 ?_
  refine lv_topi (fun yy ey => ?_)
  obtain rfl : yy = nI (8 * n + 1) := by rw [ey]; exact nI_add (8 * n) 1
  clear ey
  refine pw_sld X hKs hS1 hXs hbl (vp_in_nI (by omega) (by omega)) d_La_law_247 ?_
  refine lv_topi (fun yy ey => ?_)
  obtain rfl : yy = xs (8 * n + 1) := by rw [ey]; rw [nI_clamp (by omega)]
  clear ey
  obtain ⟨PM, hM1, hPM⟩ := hM (Array.size H1)
  refine pw_callV X hS1 (As := [.int (xs (8 * n + 1))]) (rest := []) hM1 rfl w_cd_Mo_roots w_ini_Mo w_ml_La_85 w_im_Mo_roots w_se_Mo_roots hm1.1 rfl hd_Mo_roots rfl hl.1 (Nat.le_of_ble_eq_true rfl) d_La_law_248 ⟨by show d2 + 1 ≤ R.frames; omega, by show 8 + (2 + 11) + 64 * d2 ≤ R.locals; omega⟩ ⟨by show cells + mc1 + mc2 ≤ R.cells; omega, by show slots + ms1 + ms2 ≤ R.slots; omega⟩ (fun v2 f2 H2 lc2 hp2 hS2 => ?_)
  obtain ⟨rfl, hae⟩ := hPM _ _ _ hp2
  clear hM hPM hp2 hS1
  obtain ⟨⟨fs2, hxa2⟩, ⟨wr2, L2, Z2, S2, G2, P2, Ex2, O2, T2, V2, hm2⟩, ⟨go, hoa2, hgo⟩, hJ⟩ := hae
  refine lv_istore (lv' := [(6, .int bb), (5, .int kc), (0, .ref b), (1, .ref xa), (2, .ref ma), (3, .ref oa), (4, .int (nI (8 * n)))]) hx hb d_La_law_251 hl (by decide) rfl (fun ls hl => ?_)
  refine lv_aload_n hx hb d_La_law_253 rfl (lv_at hl 4 rfl) ?_
  refine pw_callVR X hS2 (As := []) (rest := []) (r_Mo_thrown l K f2 ma (Array.size H2) kc wr2 L2 Z2 S2 G2 P2 Ex2 O2 T2 V2 hm2) rfl w_cd_Mo_thrown w_ini_Mo w_ml_La_76 w_im_Mo_thrown w_se_Mo_thrown hm2.1 rfl hd_Mo_thrown rfl hl.1 (Nat.le_of_ble_eq_true rfl) d_La_law_254 ⟨by show 1 + 1 ≤ R.frames; omega, by show 8 + (1 + 11) + 64 * 1 ≤ R.locals; omega⟩ ⟨by show cells + mc1 + mc2 ≤ R.cells; omega, by show slots + ms1 + ms2 ≤ R.slots; omega⟩ ?_
  refine lv_iload hx hb d_La_law_257 (lv_at hl 1 rfl) ?_
  refine lv_icmp_eq (tgt := 264) hx hb d_La_law_259 (by decide) (fun _ => ?_) (fun cw => absurd cw (not_not_intro rfl))
  refine lv_iload hx hb d_La_law_264 (lv_at hl 1 rfl) ?_
  refine lv_if_ne (tgt := 281) hx hb d_La_law_266 (by decide) (fun ck => ?_) (fun ck => ?_)
  · refine lv_goto (tgt := 1215) hx hb d_La_law_281 (by decide) ?_
    refine W.widen (k := cells + 1000) (n := slots + 12000) (by show cells + mc1 + mc2 ≤ _; omega) (by show slots + ms1 + ms2 ≤ _; omega) ?_
    exact kk f2 H2 lc2 ls (lv_sub hl [2, 3, 4, 5, 6] rfl) hS2 hJ ⟨⟨fs2, hxa2⟩, ⟨kc, wr2, L2, Z2, S2, G2, P2, Ex2, O2, T2, V2, hm2⟩, ⟨go, hoa2⟩⟩
  · refine lv_aload_n hx hb d_La_law_269 rfl (lv_at hl 5 rfl) ?_
    refine lv_iconst (v := 0) hx hb d_La_law_270 (by decide) ?_
    refine pw_lld X hS2 hoa2 (vp_in_nI (n := 0) (by decide) (by decide)) d_La_law_271 ?_
    refine lv_topl (fun yy ey => ?_)
    obtain rfl : yy = bb.toInt64 := by rw [ey]; exact hgo ck
    clear ey
    refine lv_iload hx hb d_La_law_272 (lv_at hl 0 rfl) ?_
    refine lv_i2l hx hb d_La_law_274 rfl ?_
    refine W.lcmp hx hb d_La_law_275 ?_
    refine lv_if_eq (tgt := 281) hx hb d_La_law_276 (by decide) (fun _ => ?_) (fun cw => absurd cw (not_not_intro ((lg_cmp_eq _ _).mpr rfl)))
    refine lv_goto (tgt := 1215) hx hb d_La_law_281 (by decide) ?_
    refine W.widen (k := cells + 1000) (n := slots + 12000) (by show cells + mc1 + mc2 ≤ _; omega) (by show slots + ms1 + ms2 ≤ _; omega) ?_
    exact kk f2 H2 lc2 ls (lv_sub hl [2, 3, 4, 5, 6] rfl) hS2 hJ ⟨⟨fs2, hxa2⟩, ⟨kc, wr2, L2, Z2, S2, G2, P2, Ex2, O2, T2, V2, hm2⟩, ⟨go, hoa2⟩⟩
set_option maxHeartbeats 4000000 in
set_option maxRecDepth 100000 in
theorem la_repeated {p : Program} {e : Env} {R : Room} {s : State} {m : MethodId} {args : Array Value} {below : List Frame} {meth : Method} {c : Code} {cells slots : Nat} {Q : State → Prop} (l : Launch) (K : pw_K) (xa ma oa : Nat) {b Ln : Nat} {xs : Nat → Int32} (X : pw_X p s m args meth c K R_La code 8) (hKs : pZ K = s) (hXs : va_X b Ln xs s s.heap) (hbl : b < s.heap.size) (hL : Ln < 2 ^ 31) (hR : 1100 ≤ R.frames ∧ 70000 ≤ R.locals ∧ cells + 1000 ≤ R.cells ∧ slots + 12000 ≤ R.slots) (n : Nat) (hn : 8 * n + 8 ≤ Ln) (f : pw_F) (J : pw_F → Prop) (hst : st_repeated l K xa ma oa (xs (8 * n + 1)) f J) (kk : ∀ (f2 : pw_F) (H2 : Heap) (lc2 : List Loc) (ls : Array Slot), lv_has ls 8 [(0, .ref b), (1, .ref xa), (2, .ref ma), (3, .ref oa), (4, .int (nI (8 * n)))] → pw_S K f2 H2 lc2 → J f2 → bas K xa ma oa f2 → W p l e R s m args below meth c H2 lc2 (cells + 1000) (slots + 12000) Q (F0 m 1215 ls [])) (H0 : Heap) (lc0 : List Loc) (ls : Array Slot) (hl : lv_has ls 8 [(0, .ref b), (1, .ref xa), (2, .ref ma), (3, .ref oa), (4, .int (nI (8 * n)))]) (hS : pw_S K f H0 lc0) : W p l e R s m args below meth c H0 lc0 cells slots Q (F0 m 284 ls []) := by
  have hx := X.1
  have hb := X.2.1
  obtain ⟨kc, Mid, ⟨d1, mc1, ms1, hd1, hW⟩, hMM⟩ := hst
  refine lv_aload_n hx hb d_La_law_284 rfl (lv_at hl 1 rfl) ?_
  refine lv_aload_n hx hb d_La_law_285 rfl (lv_at hl 0 rfl) ?_
  refine lv_iload hx hb d_La_law_286 (lv_at hl 4 rfl) ?_
  refine lv_iconst (v := 1) hx hb d_La_law_288 (by decide) ?_
  refine lv_iadd hx hb d_La_law_289 ?_
  refine lv_topi (fun yy ey => ?_)
  obtain rfl : yy = nI (8 * n + 1) := by rw [ey]; exact nI_add (8 * n) 1
  clear ey
  refine pw_sld X hKs hS hXs hbl (vp_in_nI (by omega) (by omega)) d_La_law_290 ?_
  refine lv_topi (fun yy ey => ?_)
  obtain rfl : yy = xs (8 * n + 1) := by rw [ey]; rw [nI_clamp (by omega)]
  clear ey
  refine lv_aload_n hx hb d_La_law_291 rfl (lv_at hl 3 rfl) ?_
  obtain ⟨PW, hW1, hPW⟩ := hW (Array.size H0)
  refine pw_callSW X hS (As := [.ref xa, .int (xs (8 * n + 1)), .ref oa]) (rest := []) hW1 rfl w_cd_La_repeated w_ini_La w_ml_La_86 w_st_La_repeated hd_La_repeated rfl hl.1 (Nat.le_of_ble_eq_true rfl) d_La_law_292 ⟨by show d1 + 1 ≤ R.frames; omega, by show 8 + (4 + 11) + 64 * d1 ≤ R.locals; omega⟩ ⟨by show cells + mc1 ≤ R.cells; omega, by show slots + ms1 ≤ R.slots; omega⟩ (fun v1 f1 H1 lc1 hp1 hS1 => ?_)
  obtain ⟨rfl, hmid⟩ := hPW _ _ _ hp1
  clear hW hPW hp1 hS
  obtain ⟨⟨⟨fs1, hxa1⟩, ⟨th1, wr1, L1, Z1, S1, G1, P1, Ex1, O1, T1, V1, hm1⟩, hoa1⟩, bb, ⟨d2, mc2, ms2, hd2, hM⟩⟩ := hMM f1 hmid
  refine lv_istore (lv' := [(5, .int kc), (0, .ref b), (1, .ref xa), (2, .ref ma), (3, .ref oa), (4, .int (nI (8 * n)))]) hx hb d_La_law_295 hl (by decide) rfl (fun ls hl => ?_)
  refine lv_aload_n hx hb d_La_law_297 rfl (lv_at hl 3 rfl) ?_
  refine lv_aload_n hx hb d_La_law_298 rfl (lv_at hl 1 rfl) ?_
  refine lv_iload hx hb d_La_law_299 (lv_at hl 5 rfl) ?_
  refine lv_iconst (v := 1) hx hb d_La_law_301 (by decide) ?_
  refine lv_iadd hx hb d_La_law_302 ?_
  refine lv_topi (fun yy ey => ?_)
  obtain rfl : yy = nI (8 * n + 1) := by rw [ey]; exact nI_add (8 * n) 1
  clear ey
  refine pw_sld X hKs hS1 hXs hbl (vp_in_nI (by omega) (by omega)) d_La_law_303 ?_
  refine lv_topi (fun yy ey => ?_)
  obtain rfl : yy = xs (8 * n + 1) := by rw [ey]; rw [nI_clamp (by omega)]
  clear ey
  obtain ⟨PM, hM1, hPM⟩ := hM (Array.size H1)
  refine pw_callV X hS1 (As := [.int (xs (8 * n + 1))]) (rest := []) hM1 rfl w_cd_Mo_repeated w_ini_Mo w_ml_La_88 w_im_Mo_repeated w_se_Mo_repeated hm1.1 rfl hd_Mo_repeated rfl hl.1 (Nat.le_of_ble_eq_true rfl) d_La_law_304 ⟨by show d2 + 1 ≤ R.frames; omega, by show 8 + (2 + 11) + 64 * d2 ≤ R.locals; omega⟩ ⟨by show cells + mc1 + mc2 ≤ R.cells; omega, by show slots + ms1 + ms2 ≤ R.slots; omega⟩ (fun v2 f2 H2 lc2 hp2 hS2 => ?_)
  obtain ⟨rfl, hae⟩ := hPM _ _ _ hp2
  clear hM hPM hp2 hS1
  obtain ⟨⟨fs2, hxa2⟩, ⟨wr2, L2, Z2, S2, G2, P2, Ex2, O2, T2, V2, hm2⟩, ⟨go, hoa2, hgo⟩, hJ⟩ := hae
  refine lv_istore (lv' := [(6, .int bb), (5, .int kc), (0, .ref b), (1, .ref xa), (2, .ref ma), (3, .ref oa), (4, .int (nI (8 * n)))]) hx hb d_La_law_307 hl (by decide) rfl (fun ls hl => ?_)
  refine lv_aload_n hx hb d_La_law_309 rfl (lv_at hl 4 rfl) ?_
  refine pw_callVR X hS2 (As := []) (rest := []) (r_Mo_thrown l K f2 ma (Array.size H2) kc wr2 L2 Z2 S2 G2 P2 Ex2 O2 T2 V2 hm2) rfl w_cd_Mo_thrown w_ini_Mo w_ml_La_76 w_im_Mo_thrown w_se_Mo_thrown hm2.1 rfl hd_Mo_thrown rfl hl.1 (Nat.le_of_ble_eq_true rfl) d_La_law_310 ⟨by show 1 + 1 ≤ R.frames; omega, by show 8 + (1 + 11) + 64 * 1 ≤ R.locals; omega⟩ ⟨by show cells + mc1 + mc2 ≤ R.cells; omega, by show slots + ms1 + ms2 ≤ R.slots; omega⟩ ?_
  refine lv_iload hx hb d_La_law_313 (lv_at hl 1 rfl) ?_
  refine lv_icmp_eq (tgt := 320) hx hb d_La_law_315 (by decide) (fun _ => ?_) (fun cw => absurd cw (not_not_intro rfl))
  refine lv_iload hx hb d_La_law_320 (lv_at hl 1 rfl) ?_
  refine lv_if_ne (tgt := 337) hx hb d_La_law_322 (by decide) (fun ck => ?_) (fun ck => ?_)
  · refine lv_goto (tgt := 1215) hx hb d_La_law_337 (by decide) ?_
    refine W.widen (k := cells + 1000) (n := slots + 12000) (by show cells + mc1 + mc2 ≤ _; omega) (by show slots + ms1 + ms2 ≤ _; omega) ?_
    exact kk f2 H2 lc2 ls (lv_sub hl [2, 3, 4, 5, 6] rfl) hS2 hJ ⟨⟨fs2, hxa2⟩, ⟨kc, wr2, L2, Z2, S2, G2, P2, Ex2, O2, T2, V2, hm2⟩, ⟨go, hoa2⟩⟩
  · refine lv_aload_n hx hb d_La_law_325 rfl (lv_at hl 5 rfl) ?_
    refine lv_iconst (v := 0) hx hb d_La_law_326 (by decide) ?_
    refine pw_lld X hS2 hoa2 (vp_in_nI (n := 0) (by decide) (by decide)) d_La_law_327 ?_
    refine lv_topl (fun yy ey => ?_)
    obtain rfl : yy = bb.toInt64 := by rw [ey]; exact hgo ck
    clear ey
    refine lv_iload hx hb d_La_law_328 (lv_at hl 0 rfl) ?_
    refine lv_i2l hx hb d_La_law_330 rfl ?_
    refine W.lcmp hx hb d_La_law_331 ?_
    refine lv_if_eq (tgt := 337) hx hb d_La_law_332 (by decide) (fun _ => ?_) (fun cw => absurd cw (not_not_intro ((lg_cmp_eq _ _).mpr rfl)))
    refine lv_goto (tgt := 1215) hx hb d_La_law_337 (by decide) ?_
    refine W.widen (k := cells + 1000) (n := slots + 12000) (by show cells + mc1 + mc2 ≤ _; omega) (by show slots + ms1 + ms2 ≤ _; omega) ?_
    exact kk f2 H2 lc2 ls (lv_sub hl [2, 3, 4, 5, 6] rfl) hS2 hJ ⟨⟨fs2, hxa2⟩, ⟨kc, wr2, L2, Z2, S2, G2, P2, Ex2, O2, T2, V2, hm2⟩, ⟨go, hoa2⟩⟩
set_option maxHeartbeats 4000000 in
set_option maxRecDepth 100000 in
theorem la_sign {p : Program} {e : Env} {R : Room} {s : State} {m : MethodId} {args : Array Value} {below : List Frame} {meth : Method} {c : Code} {cells slots : Nat} {Q : State → Prop} (l : Launch) (K : pw_K) (xa ma oa : Nat) {b Ln : Nat} {xs : Nat → Int32} (X : pw_X p s m args meth c K R_La code 8) (hKs : pZ K = s) (hXs : va_X b Ln xs s s.heap) (hbl : b < s.heap.size) (hL : Ln < 2 ^ 31) (hR : 1100 ≤ R.frames ∧ 70000 ≤ R.locals ∧ cells + 1000 ≤ R.cells ∧ slots + 12000 ≤ R.slots) (n : Nat) (hn : 8 * n + 8 ≤ Ln) (f : pw_F) (J : pw_F → Prop) (hst : st_sign l K xa ma oa (xs (8 * n + 1)) (lop (xs (8 * n + 2)) (xs (8 * n + 3))) (xs (8 * n + 4)) f J) (kk : ∀ (f2 : pw_F) (H2 : Heap) (lc2 : List Loc) (ls : Array Slot), lv_has ls 8 [(0, .ref b), (1, .ref xa), (2, .ref ma), (3, .ref oa), (4, .int (nI (8 * n)))] → pw_S K f2 H2 lc2 → J f2 → bas K xa ma oa f2 → W p l e R s m args below meth c H2 lc2 (cells + 1000) (slots + 12000) Q (F0 m 1215 ls [])) (H0 : Heap) (lc0 : List Loc) (ls : Array Slot) (hl : lv_has ls 8 [(0, .ref b), (1, .ref xa), (2, .ref ma), (3, .ref oa), (4, .int (nI (8 * n)))]) (hS : pw_S K f H0 lc0) : W p l e R s m args below meth c H0 lc0 cells slots Q (F0 m 340 ls []) := by
  have hx := X.1
  have hb := X.2.1
  obtain ⟨kc, Mid, ⟨d1, mc1, ms1, hd1, hW⟩, hMM⟩ := hst
  refine lv_aload_n hx hb d_La_law_340 rfl (lv_at hl 1 rfl) ?_
  refine lv_aload_n hx hb d_La_law_341 rfl (lv_at hl 0 rfl) ?_
  refine lv_iload hx hb d_La_law_342 (lv_at hl 4 rfl) ?_
  refine lv_iconst (v := 1) hx hb d_La_law_344 (by decide) ?_
  refine lv_iadd hx hb d_La_law_345 ?_
  refine lv_topi (fun yy ey => ?_)
  obtain rfl : yy = nI (8 * n + 1) := by rw [ey]; exact nI_add (8 * n) 1
  clear ey
  refine pw_sld X hKs hS hXs hbl (vp_in_nI (by omega) (by omega)) d_La_law_346 ?_
  refine lv_topi (fun yy ey => ?_)
  obtain rfl : yy = xs (8 * n + 1) := by rw [ey]; rw [nI_clamp (by omega)]
  clear ey
  refine lv_aload_n hx hb d_La_law_347 rfl (lv_at hl 0 rfl) ?_
  refine lv_iload hx hb d_La_law_348 (lv_at hl 4 rfl) ?_
  refine lv_iconst (v := 2) hx hb d_La_law_350 (by decide) ?_
  refine lv_iadd hx hb d_La_law_351 ?_
  refine lv_topi (fun yy ey => ?_)
  obtain rfl : yy = nI (8 * n + 2) := by rw [ey]; exact nI_add (8 * n) 2
  clear ey
  refine pw_sld X hKs hS hXs hbl (vp_in_nI (by omega) (by omega)) d_La_law_352 ?_
  refine lv_topi (fun yy ey => ?_)
  obtain rfl : yy = xs (8 * n + 2) := by rw [ey]; rw [nI_clamp (by omega)]
  clear ey
  refine lv_i2l hx hb d_La_law_353 rfl ?_
  refine lv_bipush (v := 32) hx hb d_La_law_354 (by decide) ?_
  refine lv_lshl hx hb d_La_law_356 rfl ?_
  refine lv_aload_n hx hb d_La_law_357 rfl (lv_at hl 0 rfl) ?_
  refine lv_iload hx hb d_La_law_358 (lv_at hl 4 rfl) ?_
  refine lv_iconst (v := 3) hx hb d_La_law_360 (by decide) ?_
  refine lv_iadd hx hb d_La_law_361 ?_
  refine lv_topi (fun yy ey => ?_)
  obtain rfl : yy = nI (8 * n + 3) := by rw [ey]; exact nI_add (8 * n) 3
  clear ey
  refine pw_sld X hKs hS hXs hbl (vp_in_nI (by omega) (by omega)) d_La_law_362 ?_
  refine lv_topi (fun yy ey => ?_)
  obtain rfl : yy = xs (8 * n + 3) := by rw [ey]; rw [nI_clamp (by omega)]
  clear ey
  refine lv_i2l hx hb d_La_law_363 rfl ?_
  refine pw_ldc2 X w_kl_La_89 d_La_law_364 ?_
  refine lv_land hx hb d_La_law_367 ?_
  refine lv_lor hx hb d_La_law_368 ?_
  refine lv_topl (fun yy ey => ?_)
  obtain rfl : yy = lop (xs (8 * n + 2)) (xs (8 * n + 3)) := by rw [ey]; rfl
  clear ey
  refine lv_aload_n hx hb d_La_law_369 rfl (lv_at hl 0 rfl) ?_
  refine lv_iload hx hb d_La_law_370 (lv_at hl 4 rfl) ?_
  refine lv_iconst (v := 4) hx hb d_La_law_372 (by decide) ?_
  refine lv_iadd hx hb d_La_law_373 ?_
  refine lv_topi (fun yy ey => ?_)
  obtain rfl : yy = nI (8 * n + 4) := by rw [ey]; exact nI_add (8 * n) 4
  clear ey
  refine pw_sld X hKs hS hXs hbl (vp_in_nI (by omega) (by omega)) d_La_law_374 ?_
  refine lv_topi (fun yy ey => ?_)
  obtain rfl : yy = xs (8 * n + 4) := by rw [ey]; rw [nI_clamp (by omega)]
  clear ey
  refine lv_aload_n hx hb d_La_law_375 rfl (lv_at hl 3 rfl) ?_
  obtain ⟨PW, hW1, hPW⟩ := hW (Array.size H0)
  refine pw_callSW X hS (As := [.ref xa, .int (xs (8 * n + 1)), .long (lop (xs (8 * n + 2)) (xs (8 * n + 3))), .int (xs (8 * n + 4)), .ref oa]) (rest := []) hW1 rfl w_cd_La_sign w_ini_La w_ml_La_91 w_st_La_sign hd_La_sign rfl hl.1 (Nat.le_of_ble_eq_true rfl) d_La_law_376 ⟨by show d1 + 1 ≤ R.frames; omega, by show 8 + (7 + 11) + 64 * d1 ≤ R.locals; omega⟩ ⟨by show cells + mc1 ≤ R.cells; omega, by show slots + ms1 ≤ R.slots; omega⟩ (fun v1 f1 H1 lc1 hp1 hS1 => ?_)
  obtain ⟨rfl, hmid⟩ := hPW _ _ _ hp1
  clear hW hPW hp1 hS
  obtain ⟨⟨⟨fs1, hxa1⟩, ⟨th1, wr1, L1, Z1, S1, G1, P1, Ex1, O1, T1, V1, hm1⟩, hoa1⟩, bb, ⟨d2, mc2, ms2, hd2, hM⟩⟩ := hMM f1 hmid
  refine lv_istore (lv' := [(5, .int kc), (0, .ref b), (1, .ref xa), (2, .ref ma), (3, .ref oa), (4, .int (nI (8 * n)))]) hx hb d_La_law_379 hl (by decide) rfl (fun ls hl => ?_)
  refine lv_aload_n hx hb d_La_law_381 rfl (lv_at hl 3 rfl) ?_
  refine lv_aload_n hx hb d_La_law_382 rfl (lv_at hl 1 rfl) ?_
  refine lv_iload hx hb d_La_law_383 (lv_at hl 5 rfl) ?_
  refine lv_iconst (v := 1) hx hb d_La_law_385 (by decide) ?_
  refine lv_iadd hx hb d_La_law_386 ?_
  refine lv_topi (fun yy ey => ?_)
  obtain rfl : yy = nI (8 * n + 1) := by rw [ey]; exact nI_add (8 * n) 1
  clear ey
  refine pw_sld X hKs hS1 hXs hbl (vp_in_nI (by omega) (by omega)) d_La_law_387 ?_
  refine lv_topi (fun yy ey => ?_)
  obtain rfl : yy = xs (8 * n + 1) := by rw [ey]; rw [nI_clamp (by omega)]
  clear ey
  refine lv_aload_n hx hb d_La_law_388 rfl (lv_at hl 1 rfl) ?_
  refine lv_iload hx hb d_La_law_389 (lv_at hl 5 rfl) ?_
  refine lv_iconst (v := 2) hx hb d_La_law_391 (by decide) ?_
  refine lv_iadd hx hb d_La_law_392 ?_
  refine lv_topi (fun yy ey => ?_)
  obtain rfl : yy = nI (8 * n + 2) := by rw [ey]; exact nI_add (8 * n) 2
  clear ey
  refine pw_sld X hKs hS1 hXs hbl (vp_in_nI (by omega) (by omega)) d_La_law_393 ?_
  refine lv_topi (fun yy ey => ?_)
  obtain rfl : yy = xs (8 * n + 2) := by rw [ey]; rw [nI_clamp (by omega)]
  clear ey
  refine lv_i2l hx hb d_La_law_394 rfl ?_
  refine lv_bipush (v := 32) hx hb d_La_law_395 (by decide) ?_
  refine lv_lshl hx hb d_La_law_397 rfl ?_
  refine lv_aload_n hx hb d_La_law_398 rfl (lv_at hl 1 rfl) ?_
  refine lv_iload hx hb d_La_law_399 (lv_at hl 5 rfl) ?_
  refine lv_iconst (v := 3) hx hb d_La_law_401 (by decide) ?_
  refine lv_iadd hx hb d_La_law_402 ?_
  refine lv_topi (fun yy ey => ?_)
  obtain rfl : yy = nI (8 * n + 3) := by rw [ey]; exact nI_add (8 * n) 3
  clear ey
  refine pw_sld X hKs hS1 hXs hbl (vp_in_nI (by omega) (by omega)) d_La_law_403 ?_
  refine lv_topi (fun yy ey => ?_)
  obtain rfl : yy = xs (8 * n + 3) := by rw [ey]; rw [nI_clamp (by omega)]
  clear ey
  refine lv_i2l hx hb d_La_law_404 rfl ?_
  refine pw_ldc2 X w_kl_La_89 d_La_law_405 ?_
  refine lv_land hx hb d_La_law_408 ?_
  refine lv_lor hx hb d_La_law_409 ?_
  refine lv_topl (fun yy ey => ?_)
  obtain rfl : yy = lop (xs (8 * n + 2)) (xs (8 * n + 3)) := by rw [ey]; rfl
  clear ey
  refine lv_aload_n hx hb d_La_law_410 rfl (lv_at hl 1 rfl) ?_
  refine lv_iload hx hb d_La_law_411 (lv_at hl 5 rfl) ?_
  refine lv_iconst (v := 4) hx hb d_La_law_413 (by decide) ?_
  refine lv_iadd hx hb d_La_law_414 ?_
  refine lv_topi (fun yy ey => ?_)
  obtain rfl : yy = nI (8 * n + 4) := by rw [ey]; exact nI_add (8 * n) 4
  clear ey
  refine pw_sld X hKs hS1 hXs hbl (vp_in_nI (by omega) (by omega)) d_La_law_415 ?_
  refine lv_topi (fun yy ey => ?_)
  obtain rfl : yy = xs (8 * n + 4) := by rw [ey]; rw [nI_clamp (by omega)]
  clear ey
  obtain ⟨PM, hM1, hPM⟩ := hM (Array.size H1)
  refine pw_callV X hS1 (As := [.int (xs (8 * n + 1)), .long (lop (xs (8 * n + 2)) (xs (8 * n + 3))), .int (xs (8 * n + 4))]) (rest := []) hM1 rfl w_cd_Mo_sign w_ini_Mo w_ml_La_94 w_im_Mo_sign w_se_Mo_sign hm1.1 rfl hd_Mo_sign rfl hl.1 (Nat.le_of_ble_eq_true rfl) d_La_law_416 ⟨by show d2 + 1 ≤ R.frames; omega, by show 8 + (5 + 11) + 64 * d2 ≤ R.locals; omega⟩ ⟨by show cells + mc1 + mc2 ≤ R.cells; omega, by show slots + ms1 + ms2 ≤ R.slots; omega⟩ (fun v2 f2 H2 lc2 hp2 hS2 => ?_)
  obtain ⟨rfl, hae⟩ := hPM _ _ _ hp2
  clear hM hPM hp2 hS1
  obtain ⟨⟨fs2, hxa2⟩, ⟨wr2, L2, Z2, S2, G2, P2, Ex2, O2, T2, V2, hm2⟩, ⟨go, hoa2, hgo⟩, hJ⟩ := hae
  refine lv_istore (lv' := [(6, .int bb), (5, .int kc), (0, .ref b), (1, .ref xa), (2, .ref ma), (3, .ref oa), (4, .int (nI (8 * n)))]) hx hb d_La_law_419 hl (by decide) rfl (fun ls hl => ?_)
  refine lv_aload_n hx hb d_La_law_421 rfl (lv_at hl 4 rfl) ?_
  refine pw_callVR X hS2 (As := []) (rest := []) (r_Mo_thrown l K f2 ma (Array.size H2) kc wr2 L2 Z2 S2 G2 P2 Ex2 O2 T2 V2 hm2) rfl w_cd_Mo_thrown w_ini_Mo w_ml_La_76 w_im_Mo_thrown w_se_Mo_thrown hm2.1 rfl hd_Mo_thrown rfl hl.1 (Nat.le_of_ble_eq_true rfl) d_La_law_422 ⟨by show 1 + 1 ≤ R.frames; omega, by show 8 + (1 + 11) + 64 * 1 ≤ R.locals; omega⟩ ⟨by show cells + mc1 + mc2 ≤ R.cells; omega, by show slots + ms1 + ms2 ≤ R.slots; omega⟩ ?_
  refine lv_iload hx hb d_La_law_425 (lv_at hl 1 rfl) ?_
  refine lv_icmp_eq (tgt := 432) hx hb d_La_law_427 (by decide) (fun _ => ?_) (fun cw => absurd cw (not_not_intro rfl))
  refine lv_iload hx hb d_La_law_432 (lv_at hl 1 rfl) ?_
  refine lv_if_ne (tgt := 449) hx hb d_La_law_434 (by decide) (fun ck => ?_) (fun ck => ?_)
  · refine lv_goto (tgt := 1215) hx hb d_La_law_449 (by decide) ?_
    refine W.widen (k := cells + 1000) (n := slots + 12000) (by show cells + mc1 + mc2 ≤ _; omega) (by show slots + ms1 + ms2 ≤ _; omega) ?_
    exact kk f2 H2 lc2 ls (lv_sub hl [2, 3, 4, 5, 6] rfl) hS2 hJ ⟨⟨fs2, hxa2⟩, ⟨kc, wr2, L2, Z2, S2, G2, P2, Ex2, O2, T2, V2, hm2⟩, ⟨go, hoa2⟩⟩
  · refine lv_aload_n hx hb d_La_law_437 rfl (lv_at hl 5 rfl) ?_
    refine lv_iconst (v := 0) hx hb d_La_law_438 (by decide) ?_
    refine pw_lld X hS2 hoa2 (vp_in_nI (n := 0) (by decide) (by decide)) d_La_law_439 ?_
    refine lv_topl (fun yy ey => ?_)
    obtain rfl : yy = bb.toInt64 := by rw [ey]; exact hgo ck
    clear ey
    refine lv_iload hx hb d_La_law_440 (lv_at hl 0 rfl) ?_
    refine lv_i2l hx hb d_La_law_442 rfl ?_
    refine W.lcmp hx hb d_La_law_443 ?_
    refine lv_if_eq (tgt := 449) hx hb d_La_law_444 (by decide) (fun _ => ?_) (fun cw => absurd cw (not_not_intro ((lg_cmp_eq _ _).mpr rfl)))
    refine lv_goto (tgt := 1215) hx hb d_La_law_449 (by decide) ?_
    refine W.widen (k := cells + 1000) (n := slots + 12000) (by show cells + mc1 + mc2 ≤ _; omega) (by show slots + ms1 + ms2 ≤ _; omega) ?_
    exact kk f2 H2 lc2 ls (lv_sub hl [2, 3, 4, 5, 6] rfl) hS2 hJ ⟨⟨fs2, hxa2⟩, ⟨kc, wr2, L2, Z2, S2, G2, P2, Ex2, O2, T2, V2, hm2⟩, ⟨go, hoa2⟩⟩
set_option maxHeartbeats 4000000 in
set_option maxRecDepth 100000 in
theorem la_between {p : Program} {e : Env} {R : Room} {s : State} {m : MethodId} {args : Array Value} {below : List Frame} {meth : Method} {c : Code} {cells slots : Nat} {Q : State → Prop} (l : Launch) (K : pw_K) (xa ma oa : Nat) {b Ln : Nat} {xs : Nat → Int32} (X : pw_X p s m args meth c K R_La code 8) (hKs : pZ K = s) (hXs : va_X b Ln xs s s.heap) (hbl : b < s.heap.size) (hL : Ln < 2 ^ 31) (hR : 1100 ≤ R.frames ∧ 70000 ≤ R.locals ∧ cells + 1000 ≤ R.cells ∧ slots + 12000 ≤ R.slots) (n : Nat) (hn : 8 * n + 8 ≤ Ln) (f : pw_F) (J : pw_F → Prop) (hst : st_between l K xa ma oa (xs (8 * n + 1)) (lop (xs (8 * n + 2)) (xs (8 * n + 3))) (xs (8 * n + 4)) (lop (xs (8 * n + 5)) (xs (8 * n + 6))) (xs (8 * n + 7)) f J) (kk : ∀ (f2 : pw_F) (H2 : Heap) (lc2 : List Loc) (ls : Array Slot), lv_has ls 8 [(0, .ref b), (1, .ref xa), (2, .ref ma), (3, .ref oa), (4, .int (nI (8 * n)))] → pw_S K f2 H2 lc2 → J f2 → bas K xa ma oa f2 → W p l e R s m args below meth c H2 lc2 (cells + 1000) (slots + 12000) Q (F0 m 1215 ls [])) (H0 : Heap) (lc0 : List Loc) (ls : Array Slot) (hl : lv_has ls 8 [(0, .ref b), (1, .ref xa), (2, .ref ma), (3, .ref oa), (4, .int (nI (8 * n)))]) (hS : pw_S K f H0 lc0) : W p l e R s m args below meth c H0 lc0 cells slots Q (F0 m 452 ls []) := by
  have hx := X.1
  have hb := X.2.1
  obtain ⟨kc, Mid, ⟨d1, mc1, ms1, hd1, hW⟩, hMM⟩ := hst
  refine lv_aload_n hx hb d_La_law_452 rfl (lv_at hl 1 rfl) ?_
  refine lv_aload_n hx hb d_La_law_453 rfl (lv_at hl 0 rfl) ?_
  refine lv_iload hx hb d_La_law_454 (lv_at hl 4 rfl) ?_
  refine lv_iconst (v := 1) hx hb d_La_law_456 (by decide) ?_
  refine lv_iadd hx hb d_La_law_457 ?_
  refine lv_topi (fun yy ey => ?_)
  obtain rfl : yy = nI (8 * n + 1) := by rw [ey]; exact nI_add (8 * n) 1
  clear ey
  refine pw_sld X hKs hS hXs hbl (vp_in_nI (by omega) (by omega)) d_La_law_458 ?_
  refine lv_topi (fun yy ey => ?_)
  obtain rfl : yy = xs (8 * n + 1) := by rw [ey]; rw [nI_clamp (by omega)]
  clear ey
  refine lv_aload_n hx hb d_La_law_459 rfl (lv_at hl 0 rfl) ?_
  refine lv_iload hx hb d_La_law_460 (lv_at hl 4 rfl) ?_
  refine lv_iconst (v := 2) hx hb d_La_law_462 (by decide) ?_
  refine lv_iadd hx hb d_La_law_463 ?_
  refine lv_topi (fun yy ey => ?_)
  obtain rfl : yy = nI (8 * n + 2) := by rw [ey]; exact nI_add (8 * n) 2
  clear ey
  refine pw_sld X hKs hS hXs hbl (vp_in_nI (by omega) (by omega)) d_La_law_464 ?_
  refine lv_topi (fun yy ey => ?_)
  obtain rfl : yy = xs (8 * n + 2) := by rw [ey]; rw [nI_clamp (by omega)]
  clear ey
  refine lv_i2l hx hb d_La_law_465 rfl ?_
  refine lv_bipush (v := 32) hx hb d_La_law_466 (by decide) ?_
  refine lv_lshl hx hb d_La_law_468 rfl ?_
  refine lv_aload_n hx hb d_La_law_469 rfl (lv_at hl 0 rfl) ?_
  refine lv_iload hx hb d_La_law_470 (lv_at hl 4 rfl) ?_
  refine lv_iconst (v := 3) hx hb d_La_law_472 (by decide) ?_
  refine lv_iadd hx hb d_La_law_473 ?_
  refine lv_topi (fun yy ey => ?_)
  obtain rfl : yy = nI (8 * n + 3) := by rw [ey]; exact nI_add (8 * n) 3
  clear ey
  refine pw_sld X hKs hS hXs hbl (vp_in_nI (by omega) (by omega)) d_La_law_474 ?_
  refine lv_topi (fun yy ey => ?_)
  obtain rfl : yy = xs (8 * n + 3) := by rw [ey]; rw [nI_clamp (by omega)]
  clear ey
  refine lv_i2l hx hb d_La_law_475 rfl ?_
  refine pw_ldc2 X w_kl_La_89 d_La_law_476 ?_
  refine lv_land hx hb d_La_law_479 ?_
  refine lv_lor hx hb d_La_law_480 ?_
  refine lv_topl (fun yy ey => ?_)
  obtain rfl : yy = lop (xs (8 * n + 2)) (xs (8 * n + 3)) := by rw [ey]; rfl
  clear ey
  refine lv_aload_n hx hb d_La_law_481 rfl (lv_at hl 0 rfl) ?_
  refine lv_iload hx hb d_La_law_482 (lv_at hl 4 rfl) ?_
  refine lv_iconst (v := 4) hx hb d_La_law_484 (by decide) ?_
  refine lv_iadd hx hb d_La_law_485 ?_
  refine lv_topi (fun yy ey => ?_)
  obtain rfl : yy = nI (8 * n + 4) := by rw [ey]; exact nI_add (8 * n) 4
  clear ey
  refine pw_sld X hKs hS hXs hbl (vp_in_nI (by omega) (by omega)) d_La_law_486 ?_
  refine lv_topi (fun yy ey => ?_)
  obtain rfl : yy = xs (8 * n + 4) := by rw [ey]; rw [nI_clamp (by omega)]
  clear ey
  refine lv_aload_n hx hb d_La_law_487 rfl (lv_at hl 0 rfl) ?_
  refine lv_iload hx hb d_La_law_488 (lv_at hl 4 rfl) ?_
  refine lv_iconst (v := 5) hx hb d_La_law_490 (by decide) ?_
  refine lv_iadd hx hb d_La_law_491 ?_
  refine lv_topi (fun yy ey => ?_)
  obtain rfl : yy = nI (8 * n + 5) := by rw [ey]; exact nI_add (8 * n) 5
  clear ey
  refine pw_sld X hKs hS hXs hbl (vp_in_nI (by omega) (by omega)) d_La_law_492 ?_
  refine lv_topi (fun yy ey => ?_)
  obtain rfl : yy = xs (8 * n + 5) := by rw [ey]; rw [nI_clamp (by omega)]
  clear ey
  refine lv_i2l hx hb d_La_law_493 rfl ?_
  refine lv_bipush (v := 32) hx hb d_La_law_494 (by decide) ?_
  refine lv_lshl hx hb d_La_law_496 rfl ?_
  refine lv_aload_n hx hb d_La_law_497 rfl (lv_at hl 0 rfl) ?_
  refine lv_iload hx hb d_La_law_498 (lv_at hl 4 rfl) ?_
  refine lv_bipush (v := 6) hx hb d_La_law_500 (by decide) ?_
  refine lv_iadd hx hb d_La_law_502 ?_
  refine lv_topi (fun yy ey => ?_)
  obtain rfl : yy = nI (8 * n + 6) := by rw [ey]; exact nI_add (8 * n) 6
  clear ey
  refine pw_sld X hKs hS hXs hbl (vp_in_nI (by omega) (by omega)) d_La_law_503 ?_
  refine lv_topi (fun yy ey => ?_)
  obtain rfl : yy = xs (8 * n + 6) := by rw [ey]; rw [nI_clamp (by omega)]
  clear ey
  refine lv_i2l hx hb d_La_law_504 rfl ?_
  refine pw_ldc2 X w_kl_La_89 d_La_law_505 ?_
  refine lv_land hx hb d_La_law_508 ?_
  refine lv_lor hx hb d_La_law_509 ?_
  refine lv_topl (fun yy ey => ?_)
  obtain rfl : yy = lop (xs (8 * n + 5)) (xs (8 * n + 6)) := by rw [ey]; rfl
  clear ey
  refine lv_aload_n hx hb d_La_law_510 rfl (lv_at hl 0 rfl) ?_
  refine lv_iload hx hb d_La_law_511 (lv_at hl 4 rfl) ?_
  refine lv_bipush (v := 7) hx hb d_La_law_513 (by decide) ?_
  refine lv_iadd hx hb d_La_law_515 ?_
  refine lv_topi (fun yy ey => ?_)
  obtain rfl : yy = nI (8 * n + 7) := by rw [ey]; exact nI_add (8 * n) 7
  clear ey
  refine pw_sld X hKs hS hXs hbl (vp_in_nI (by omega) (by omega)) d_La_law_516 ?_
  refine lv_topi (fun yy ey => ?_)
  obtain rfl : yy = xs (8 * n + 7) := by rw [ey]; rw [nI_clamp (by omega)]
  clear ey
  refine lv_aload_n hx hb d_La_law_517 rfl (lv_at hl 3 rfl) ?_
  obtain ⟨PW, hW1, hPW⟩ := hW (Array.size H0)
  refine pw_callSW X hS (As := [.ref xa, .int (xs (8 * n + 1)), .long (lop (xs (8 * n + 2)) (xs (8 * n + 3))), .int (xs (8 * n + 4)), .long (lop (xs (8 * n + 5)) (xs (8 * n + 6))), .int (xs (8 * n + 7)), .ref oa]) (rest := []) hW1 rfl w_cd_La_between w_ini_La w_ml_La_95 w_st_La_between hd_La_between rfl hl.1 (Nat.le_of_ble_eq_true rfl) d_La_law_518 ⟨by show d1 + 1 ≤ R.frames; omega, by show 8 + (10 + 11) + 64 * d1 ≤ R.locals; omega⟩ ⟨by show cells + mc1 ≤ R.cells; omega, by show slots + ms1 ≤ R.slots; omega⟩ (fun v1 f1 H1 lc1 hp1 hS1 => ?_)
  obtain ⟨rfl, hmid⟩ := hPW _ _ _ hp1
  clear hW hPW hp1 hS
  obtain ⟨⟨⟨fs1, hxa1⟩, ⟨th1, wr1, L1, Z1, S1, G1, P1, Ex1, O1, T1, V1, hm1⟩, hoa1⟩, bb, ⟨d2, mc2, ms2, hd2, hM⟩⟩ := hMM f1 hmid
  refine lv_istore (lv' := [(5, .int kc), (0, .ref b), (1, .ref xa), (2, .ref ma), (3, .ref oa), (4, .int (nI (8 * n)))]) hx hb d_La_law_521 hl (by decide) rfl (fun ls hl => ?_)
  refine lv_aload_n hx hb d_La_law_523 rfl (lv_at hl 3 rfl) ?_
  refine lv_aload_n hx hb d_La_law_524 rfl (lv_at hl 1 rfl) ?_
  refine lv_iload hx hb d_La_law_525 (lv_at hl 5 rfl) ?_
  refine lv_iconst (v := 1) hx hb d_La_law_527 (by decide) ?_
  refine lv_iadd hx hb d_La_law_528 ?_
  refine lv_topi (fun yy ey => ?_)
  obtain rfl : yy = nI (8 * n + 1) := by rw [ey]; exact nI_add (8 * n) 1
  clear ey
  refine pw_sld X hKs hS1 hXs hbl (vp_in_nI (by omega) (by omega)) d_La_law_529 ?_
  refine lv_topi (fun yy ey => ?_)
  obtain rfl : yy = xs (8 * n + 1) := by rw [ey]; rw [nI_clamp (by omega)]
  clear ey
  refine lv_aload_n hx hb d_La_law_530 rfl (lv_at hl 1 rfl) ?_
  refine lv_iload hx hb d_La_law_531 (lv_at hl 5 rfl) ?_
  refine lv_iconst (v := 2) hx hb d_La_law_533 (by decide) ?_
  refine lv_iadd hx hb d_La_law_534 ?_
  refine lv_topi (fun yy ey => ?_)
  obtain rfl : yy = nI (8 * n + 2) := by rw [ey]; exact nI_add (8 * n) 2
  clear ey
  refine pw_sld X hKs hS1 hXs hbl (vp_in_nI (by omega) (by omega)) d_La_law_535 ?_
  refine lv_topi (fun yy ey => ?_)
  obtain rfl : yy = xs (8 * n + 2) := by rw [ey]; rw [nI_clamp (by omega)]
  clear ey
  refine lv_i2l hx hb d_La_law_536 rfl ?_
  refine lv_bipush (v := 32) hx hb d_La_law_537 (by decide) ?_
  refine lv_lshl hx hb d_La_law_539 rfl ?_
  refine lv_aload_n hx hb d_La_law_540 rfl (lv_at hl 1 rfl) ?_
  refine lv_iload hx hb d_La_law_541 (lv_at hl 5 rfl) ?_
  refine lv_iconst (v := 3) hx hb d_La_law_543 (by decide) ?_
  refine lv_iadd hx hb d_La_law_544 ?_
  refine lv_topi (fun yy ey => ?_)
  obtain rfl : yy = nI (8 * n + 3) := by rw [ey]; exact nI_add (8 * n) 3
  clear ey
  refine pw_sld X hKs hS1 hXs hbl (vp_in_nI (by omega) (by omega)) d_La_law_545 ?_
  refine lv_topi (fun yy ey => ?_)
  obtain rfl : yy = xs (8 * n + 3) := by rw [ey]; rw [nI_clamp (by omega)]
  clear ey
  refine lv_i2l hx hb d_La_law_546 rfl ?_
  refine pw_ldc2 X w_kl_La_89 d_La_law_547 ?_
  refine lv_land hx hb d_La_law_550 ?_
  refine lv_lor hx hb d_La_law_551 ?_
  refine lv_topl (fun yy ey => ?_)
  obtain rfl : yy = lop (xs (8 * n + 2)) (xs (8 * n + 3)) := by rw [ey]; rfl
  clear ey
  refine lv_aload_n hx hb d_La_law_552 rfl (lv_at hl 1 rfl) ?_
  refine lv_iload hx hb d_La_law_553 (lv_at hl 5 rfl) ?_
  refine lv_iconst (v := 4) hx hb d_La_law_555 (by decide) ?_
  refine lv_iadd hx hb d_La_law_556 ?_
  refine lv_topi (fun yy ey => ?_)
  obtain rfl : yy = nI (8 * n + 4) := by rw [ey]; exact nI_add (8 * n) 4
  clear ey
  refine pw_sld X hKs hS1 hXs hbl (vp_in_nI (by omega) (by omega)) d_La_law_557 ?_
  refine lv_topi (fun yy ey => ?_)
  obtain rfl : yy = xs (8 * n + 4) := by rw [ey]; rw [nI_clamp (by omega)]
  clear ey
  refine lv_aload_n hx hb d_La_law_558 rfl (lv_at hl 1 rfl) ?_
  refine lv_iload hx hb d_La_law_559 (lv_at hl 5 rfl) ?_
  refine lv_iconst (v := 5) hx hb d_La_law_561 (by decide) ?_
  refine lv_iadd hx hb d_La_law_562 ?_
  refine lv_topi (fun yy ey => ?_)
  obtain rfl : yy = nI (8 * n + 5) := by rw [ey]; exact nI_add (8 * n) 5
  clear ey
  refine pw_sld X hKs hS1 hXs hbl (vp_in_nI (by omega) (by omega)) d_La_law_563 ?_
  refine lv_topi (fun yy ey => ?_)
  obtain rfl : yy = xs (8 * n + 5) := by rw [ey]; rw [nI_clamp (by omega)]
  clear ey
  refine lv_i2l hx hb d_La_law_564 rfl ?_
  refine lv_bipush (v := 32) hx hb d_La_law_565 (by decide) ?_
  refine lv_lshl hx hb d_La_law_567 rfl ?_
  refine lv_aload_n hx hb d_La_law_568 rfl (lv_at hl 1 rfl) ?_
  refine lv_iload hx hb d_La_law_569 (lv_at hl 5 rfl) ?_
  refine lv_bipush (v := 6) hx hb d_La_law_571 (by decide) ?_
  refine lv_iadd hx hb d_La_law_573 ?_
  refine lv_topi (fun yy ey => ?_)
  obtain rfl : yy = nI (8 * n + 6) := by rw [ey]; exact nI_add (8 * n) 6
  clear ey
  refine pw_sld X hKs hS1 hXs hbl (vp_in_nI (by omega) (by omega)) d_La_law_574 ?_
  refine lv_topi (fun yy ey => ?_)
  obtain rfl : yy = xs (8 * n + 6) := by rw [ey]; rw [nI_clamp (by omega)]
  clear ey
  refine lv_i2l hx hb d_La_law_575 rfl ?_
  refine pw_ldc2 X w_kl_La_89 d_La_law_576 ?_
  refine lv_land hx hb d_La_law_579 ?_
  refine lv_lor hx hb d_La_law_580 ?_
  refine lv_topl (fun yy ey => ?_)
  obtain rfl : yy = lop (xs (8 * n + 5)) (xs (8 * n + 6)) := by rw [ey]; rfl
  clear ey
  refine lv_aload_n hx hb d_La_law_581 rfl (lv_at hl 1 rfl) ?_
  refine lv_iload hx hb d_La_law_582 (lv_at hl 5 rfl) ?_
  refine lv_bipush (v := 7) hx hb d_La_law_584 (by decide) ?_
  refine lv_iadd hx hb d_La_law_586 ?_
  refine lv_topi (fun yy ey => ?_)
  obtain rfl : yy = nI (8 * n + 7) := by rw [ey]; exact nI_add (8 * n) 7
  clear ey
  refine pw_sld X hKs hS1 hXs hbl (vp_in_nI (by omega) (by omega)) d_La_law_587 ?_
  refine lv_topi (fun yy ey => ?_)
  obtain rfl : yy = xs (8 * n + 7) := by rw [ey]; rw [nI_clamp (by omega)]
  clear ey
  obtain ⟨PM, hM1, hPM⟩ := hM (Array.size H1)
  refine pw_callV X hS1 (As := [.int (xs (8 * n + 1)), .long (lop (xs (8 * n + 2)) (xs (8 * n + 3))), .int (xs (8 * n + 4)), .long (lop (xs (8 * n + 5)) (xs (8 * n + 6))), .int (xs (8 * n + 7))]) (rest := []) hM1 rfl w_cd_Mo_between w_ini_Mo w_ml_La_98 w_im_Mo_between w_se_Mo_between hm1.1 rfl hd_Mo_between rfl hl.1 (Nat.le_of_ble_eq_true rfl) d_La_law_588 ⟨by show d2 + 1 ≤ R.frames; omega, by show 8 + (10 + 11) + 64 * d2 ≤ R.locals; omega⟩ ⟨by show cells + mc1 + mc2 ≤ R.cells; omega, by show slots + ms1 + ms2 ≤ R.slots; omega⟩ (fun v2 f2 H2 lc2 hp2 hS2 => ?_)
  obtain ⟨rfl, hae⟩ := hPM _ _ _ hp2
  clear hM hPM hp2 hS1
  obtain ⟨⟨fs2, hxa2⟩, ⟨wr2, L2, Z2, S2, G2, P2, Ex2, O2, T2, V2, hm2⟩, ⟨go, hoa2, hgo⟩, hJ⟩ := hae
  refine lv_istore (lv' := [(6, .int bb), (5, .int kc), (0, .ref b), (1, .ref xa), (2, .ref ma), (3, .ref oa), (4, .int (nI (8 * n)))]) hx hb d_La_law_591 hl (by decide) rfl (fun ls hl => ?_)
  refine lv_aload_n hx hb d_La_law_593 rfl (lv_at hl 4 rfl) ?_
  refine pw_callVR X hS2 (As := []) (rest := []) (r_Mo_thrown l K f2 ma (Array.size H2) kc wr2 L2 Z2 S2 G2 P2 Ex2 O2 T2 V2 hm2) rfl w_cd_Mo_thrown w_ini_Mo w_ml_La_76 w_im_Mo_thrown w_se_Mo_thrown hm2.1 rfl hd_Mo_thrown rfl hl.1 (Nat.le_of_ble_eq_true rfl) d_La_law_594 ⟨by show 1 + 1 ≤ R.frames; omega, by show 8 + (1 + 11) + 64 * 1 ≤ R.locals; omega⟩ ⟨by show cells + mc1 + mc2 ≤ R.cells; omega, by show slots + ms1 + ms2 ≤ R.slots; omega⟩ ?_
  refine lv_iload hx hb d_La_law_597 (lv_at hl 1 rfl) ?_
  refine lv_icmp_eq (tgt := 604) hx hb d_La_law_599 (by decide) (fun _ => ?_) (fun cw => absurd cw (not_not_intro rfl))
  refine lv_iload hx hb d_La_law_604 (lv_at hl 1 rfl) ?_
  refine lv_if_ne (tgt := 621) hx hb d_La_law_606 (by decide) (fun ck => ?_) (fun ck => ?_)
  · refine lv_goto (tgt := 1215) hx hb d_La_law_621 (by decide) ?_
    refine W.widen (k := cells + 1000) (n := slots + 12000) (by show cells + mc1 + mc2 ≤ _; omega) (by show slots + ms1 + ms2 ≤ _; omega) ?_
    exact kk f2 H2 lc2 ls (lv_sub hl [2, 3, 4, 5, 6] rfl) hS2 hJ ⟨⟨fs2, hxa2⟩, ⟨kc, wr2, L2, Z2, S2, G2, P2, Ex2, O2, T2, V2, hm2⟩, ⟨go, hoa2⟩⟩
  · refine lv_aload_n hx hb d_La_law_609 rfl (lv_at hl 5 rfl) ?_
    refine lv_iconst (v := 0) hx hb d_La_law_610 (by decide) ?_
    refine pw_lld X hS2 hoa2 (vp_in_nI (n := 0) (by decide) (by decide)) d_La_law_611 ?_
    refine lv_topl (fun yy ey => ?_)
    obtain rfl : yy = bb.toInt64 := by rw [ey]; exact hgo ck
    clear ey
    refine lv_iload hx hb d_La_law_612 (lv_at hl 0 rfl) ?_
    refine lv_i2l hx hb d_La_law_614 rfl ?_
    refine W.lcmp hx hb d_La_law_615 ?_
    refine lv_if_eq (tgt := 621) hx hb d_La_law_616 (by decide) (fun _ => ?_) (fun cw => absurd cw (not_not_intro ((lg_cmp_eq _ _).mpr rfl)))
    refine lv_goto (tgt := 1215) hx hb d_La_law_621 (by decide) ?_
    refine W.widen (k := cells + 1000) (n := slots + 12000) (by show cells + mc1 + mc2 ≤ _; omega) (by show slots + ms1 + ms2 ≤ _; omega) ?_
    exact kk f2 H2 lc2 ls (lv_sub hl [2, 3, 4, 5, 6] rfl) hS2 hJ ⟨⟨fs2, hxa2⟩, ⟨kc, wr2, L2, Z2, S2, G2, P2, Ex2, O2, T2, V2, hm2⟩, ⟨go, hoa2⟩⟩
set_option maxHeartbeats 4000000 in
set_option maxRecDepth 100000 in
theorem la_multiple {p : Program} {e : Env} {R : Room} {s : State} {m : MethodId} {args : Array Value} {below : List Frame} {meth : Method} {c : Code} {cells slots : Nat} {Q : State → Prop} (l : Launch) (K : pw_K) (xa ma oa : Nat) {b Ln : Nat} {xs : Nat → Int32} (X : pw_X p s m args meth c K R_La code 8) (hKs : pZ K = s) (hXs : va_X b Ln xs s s.heap) (hbl : b < s.heap.size) (hL : Ln < 2 ^ 31) (hR : 1100 ≤ R.frames ∧ 70000 ≤ R.locals ∧ cells + 1000 ≤ R.cells ∧ slots + 12000 ≤ R.slots) (n : Nat) (hn : 8 * n + 8 ≤ Ln) (f : pw_F) (J : pw_F → Prop) (hst : st_multiple l K xa ma oa (xs (8 * n + 1)) (xs (8 * n + 2)) f J) (kk : ∀ (f2 : pw_F) (H2 : Heap) (lc2 : List Loc) (ls : Array Slot), lv_has ls 8 [(0, .ref b), (1, .ref xa), (2, .ref ma), (3, .ref oa), (4, .int (nI (8 * n)))] → pw_S K f2 H2 lc2 → J f2 → bas K xa ma oa f2 → W p l e R s m args below meth c H2 lc2 (cells + 1000) (slots + 12000) Q (F0 m 1215 ls [])) (H0 : Heap) (lc0 : List Loc) (ls : Array Slot) (hl : lv_has ls 8 [(0, .ref b), (1, .ref xa), (2, .ref ma), (3, .ref oa), (4, .int (nI (8 * n)))]) (hS : pw_S K f H0 lc0) : W p l e R s m args below meth c H0 lc0 cells slots Q (F0 m 624 ls []) := by
  have hx := X.1
  have hb := X.2.1
  obtain ⟨kc, Mid, ⟨d1, mc1, ms1, hd1, hW⟩, hMM⟩ := hst
  refine lv_aload_n hx hb d_La_law_624 rfl (lv_at hl 1 rfl) ?_
  refine lv_aload_n hx hb d_La_law_625 rfl (lv_at hl 0 rfl) ?_
  refine lv_iload hx hb d_La_law_626 (lv_at hl 4 rfl) ?_
  refine lv_iconst (v := 1) hx hb d_La_law_628 (by decide) ?_
  refine lv_iadd hx hb d_La_law_629 ?_
  refine lv_topi (fun yy ey => ?_)
  obtain rfl : yy = nI (8 * n + 1) := by rw [ey]; exact nI_add (8 * n) 1
  clear ey
  refine pw_sld X hKs hS hXs hbl (vp_in_nI (by omega) (by omega)) d_La_law_630 ?_
  refine lv_topi (fun yy ey => ?_)
  obtain rfl : yy = xs (8 * n + 1) := by rw [ey]; rw [nI_clamp (by omega)]
  clear ey
  refine lv_aload_n hx hb d_La_law_631 rfl (lv_at hl 0 rfl) ?_
  refine lv_iload hx hb d_La_law_632 (lv_at hl 4 rfl) ?_
  refine lv_iconst (v := 2) hx hb d_La_law_634 (by decide) ?_
  refine lv_iadd hx hb d_La_law_635 ?_
  refine lv_topi (fun yy ey => ?_)
  obtain rfl : yy = nI (8 * n + 2) := by rw [ey]; exact nI_add (8 * n) 2
  clear ey
  refine pw_sld X hKs hS hXs hbl (vp_in_nI (by omega) (by omega)) d_La_law_636 ?_
  refine lv_topi (fun yy ey => ?_)
  obtain rfl : yy = xs (8 * n + 2) := by rw [ey]; rw [nI_clamp (by omega)]
  clear ey
  refine lv_aload_n hx hb d_La_law_637 rfl (lv_at hl 3 rfl) ?_
  obtain ⟨PW, hW1, hPW⟩ := hW (Array.size H0)
  refine pw_callSW X hS (As := [.ref xa, .int (xs (8 * n + 1)), .int (xs (8 * n + 2)), .ref oa]) (rest := []) hW1 rfl w_cd_La_multiple w_ini_La w_ml_La_99 w_st_La_multiple hd_La_multiple rfl hl.1 (Nat.le_of_ble_eq_true rfl) d_La_law_638 ⟨by show d1 + 1 ≤ R.frames; omega, by show 8 + (5 + 11) + 64 * d1 ≤ R.locals; omega⟩ ⟨by show cells + mc1 ≤ R.cells; omega, by show slots + ms1 ≤ R.slots; omega⟩ (fun v1 f1 H1 lc1 hp1 hS1 => ?_)
  obtain ⟨rfl, hmid⟩ := hPW _ _ _ hp1
  clear hW hPW hp1 hS
  obtain ⟨⟨⟨fs1, hxa1⟩, ⟨th1, wr1, L1, Z1, S1, G1, P1, Ex1, O1, T1, V1, hm1⟩, hoa1⟩, bb, ⟨d2, mc2, ms2, hd2, hM⟩⟩ := hMM f1 hmid
  refine lv_istore (lv' := [(5, .int kc), (0, .ref b), (1, .ref xa), (2, .ref ma), (3, .ref oa), (4, .int (nI (8 * n)))]) hx hb d_La_law_641 hl (by decide) rfl (fun ls hl => ?_)
  refine lv_aload_n hx hb d_La_law_643 rfl (lv_at hl 3 rfl) ?_
  refine lv_aload_n hx hb d_La_law_644 rfl (lv_at hl 1 rfl) ?_
  refine lv_iload hx hb d_La_law_645 (lv_at hl 5 rfl) ?_
  refine lv_iconst (v := 1) hx hb d_La_law_647 (by decide) ?_
  refine lv_iadd hx hb d_La_law_648 ?_
  refine lv_topi (fun yy ey => ?_)
  obtain rfl : yy = nI (8 * n + 1) := by rw [ey]; exact nI_add (8 * n) 1
  clear ey
  refine pw_sld X hKs hS1 hXs hbl (vp_in_nI (by omega) (by omega)) d_La_law_649 ?_
  refine lv_topi (fun yy ey => ?_)
  obtain rfl : yy = xs (8 * n + 1) := by rw [ey]; rw [nI_clamp (by omega)]
  clear ey
  refine lv_aload_n hx hb d_La_law_650 rfl (lv_at hl 1 rfl) ?_
  refine lv_iload hx hb d_La_law_651 (lv_at hl 5 rfl) ?_
  refine lv_iconst (v := 2) hx hb d_La_law_653 (by decide) ?_
  refine lv_iadd hx hb d_La_law_654 ?_
  refine lv_topi (fun yy ey => ?_)
  obtain rfl : yy = nI (8 * n + 2) := by rw [ey]; exact nI_add (8 * n) 2
  clear ey
  refine pw_sld X hKs hS1 hXs hbl (vp_in_nI (by omega) (by omega)) d_La_law_655 ?_
  refine lv_topi (fun yy ey => ?_)
  obtain rfl : yy = xs (8 * n + 2) := by rw [ey]; rw [nI_clamp (by omega)]
  clear ey
  obtain ⟨PM, hM1, hPM⟩ := hM (Array.size H1)
  refine pw_callV X hS1 (As := [.int (xs (8 * n + 1)), .int (xs (8 * n + 2))]) (rest := []) hM1 rfl w_cd_Mo_multiple w_ini_Mo w_ml_La_102 w_im_Mo_multiple w_se_Mo_multiple hm1.1 rfl hd_Mo_multiple rfl hl.1 (Nat.le_of_ble_eq_true rfl) d_La_law_656 ⟨by show d2 + 1 ≤ R.frames; omega, by show 8 + (5 + 11) + 64 * d2 ≤ R.locals; omega⟩ ⟨by show cells + mc1 + mc2 ≤ R.cells; omega, by show slots + ms1 + ms2 ≤ R.slots; omega⟩ (fun v2 f2 H2 lc2 hp2 hS2 => ?_)
  obtain ⟨rfl, hae⟩ := hPM _ _ _ hp2
  clear hM hPM hp2 hS1
  obtain ⟨⟨fs2, hxa2⟩, ⟨wr2, L2, Z2, S2, G2, P2, Ex2, O2, T2, V2, hm2⟩, ⟨go, hoa2, hgo⟩, hJ⟩ := hae
  refine lv_istore (lv' := [(6, .int bb), (5, .int kc), (0, .ref b), (1, .ref xa), (2, .ref ma), (3, .ref oa), (4, .int (nI (8 * n)))]) hx hb d_La_law_659 hl (by decide) rfl (fun ls hl => ?_)
  refine lv_aload_n hx hb d_La_law_661 rfl (lv_at hl 4 rfl) ?_
  refine pw_callVR X hS2 (As := []) (rest := []) (r_Mo_thrown l K f2 ma (Array.size H2) kc wr2 L2 Z2 S2 G2 P2 Ex2 O2 T2 V2 hm2) rfl w_cd_Mo_thrown w_ini_Mo w_ml_La_76 w_im_Mo_thrown w_se_Mo_thrown hm2.1 rfl hd_Mo_thrown rfl hl.1 (Nat.le_of_ble_eq_true rfl) d_La_law_662 ⟨by show 1 + 1 ≤ R.frames; omega, by show 8 + (1 + 11) + 64 * 1 ≤ R.locals; omega⟩ ⟨by show cells + mc1 + mc2 ≤ R.cells; omega, by show slots + ms1 + ms2 ≤ R.slots; omega⟩ ?_
  refine lv_iload hx hb d_La_law_665 (lv_at hl 1 rfl) ?_
  refine lv_icmp_eq (tgt := 672) hx hb d_La_law_667 (by decide) (fun _ => ?_) (fun cw => absurd cw (not_not_intro rfl))
  refine lv_iload hx hb d_La_law_672 (lv_at hl 1 rfl) ?_
  refine lv_if_ne (tgt := 689) hx hb d_La_law_674 (by decide) (fun ck => ?_) (fun ck => ?_)
  · refine lv_goto (tgt := 1215) hx hb d_La_law_689 (by decide) ?_
    refine W.widen (k := cells + 1000) (n := slots + 12000) (by show cells + mc1 + mc2 ≤ _; omega) (by show slots + ms1 + ms2 ≤ _; omega) ?_
    exact kk f2 H2 lc2 ls (lv_sub hl [2, 3, 4, 5, 6] rfl) hS2 hJ ⟨⟨fs2, hxa2⟩, ⟨kc, wr2, L2, Z2, S2, G2, P2, Ex2, O2, T2, V2, hm2⟩, ⟨go, hoa2⟩⟩
  · refine lv_aload_n hx hb d_La_law_677 rfl (lv_at hl 5 rfl) ?_
    refine lv_iconst (v := 0) hx hb d_La_law_678 (by decide) ?_
    refine pw_lld X hS2 hoa2 (vp_in_nI (n := 0) (by decide) (by decide)) d_La_law_679 ?_
    refine lv_topl (fun yy ey => ?_)
    obtain rfl : yy = bb.toInt64 := by rw [ey]; exact hgo ck
    clear ey
    refine lv_iload hx hb d_La_law_680 (lv_at hl 0 rfl) ?_
    refine lv_i2l hx hb d_La_law_682 rfl ?_
    refine W.lcmp hx hb d_La_law_683 ?_
    refine lv_if_eq (tgt := 689) hx hb d_La_law_684 (by decide) (fun _ => ?_) (fun cw => absurd cw (not_not_intro ((lg_cmp_eq _ _).mpr rfl)))
    refine lv_goto (tgt := 1215) hx hb d_La_law_689 (by decide) ?_
    refine W.widen (k := cells + 1000) (n := slots + 12000) (by show cells + mc1 + mc2 ≤ _; omega) (by show slots + ms1 + ms2 ≤ _; omega) ?_
    exact kk f2 H2 lc2 ls (lv_sub hl [2, 3, 4, 5, 6] rfl) hS2 hJ ⟨⟨fs2, hxa2⟩, ⟨kc, wr2, L2, Z2, S2, G2, P2, Ex2, O2, T2, V2, hm2⟩, ⟨go, hoa2⟩⟩
set_option maxHeartbeats 4000000 in
set_option maxRecDepth 100000 in
theorem la_side {p : Program} {e : Env} {R : Room} {s : State} {m : MethodId} {args : Array Value} {below : List Frame} {meth : Method} {c : Code} {cells slots : Nat} {Q : State → Prop} (l : Launch) (K : pw_K) (xa ma oa : Nat) {b Ln : Nat} {xs : Nat → Int32} (X : pw_X p s m args meth c K R_La code 8) (hKs : pZ K = s) (hXs : va_X b Ln xs s s.heap) (hbl : b < s.heap.size) (hL : Ln < 2 ^ 31) (hR : 1100 ≤ R.frames ∧ 70000 ≤ R.locals ∧ cells + 1000 ≤ R.cells ∧ slots + 12000 ≤ R.slots) (n : Nat) (hn : 8 * n + 8 ≤ Ln) (f : pw_F) (J : pw_F → Prop) (hst : st_side l K xa ma oa (xs (8 * n + 1)) (xs (8 * n + 2)) (lop (xs (8 * n + 3)) (xs (8 * n + 4))) (xs (8 * n + 5)) f J) (kk : ∀ (f2 : pw_F) (H2 : Heap) (lc2 : List Loc) (ls : Array Slot), lv_has ls 8 [(0, .ref b), (1, .ref xa), (2, .ref ma), (3, .ref oa), (4, .int (nI (8 * n)))] → pw_S K f2 H2 lc2 → J f2 → bas K xa ma oa f2 → W p l e R s m args below meth c H2 lc2 (cells + 1000) (slots + 12000) Q (F0 m 1215 ls [])) (H0 : Heap) (lc0 : List Loc) (ls : Array Slot) (hl : lv_has ls 8 [(0, .ref b), (1, .ref xa), (2, .ref ma), (3, .ref oa), (4, .int (nI (8 * n)))]) (hS : pw_S K f H0 lc0) : W p l e R s m args below meth c H0 lc0 cells slots Q (F0 m 692 ls []) := by
  have hx := X.1
  have hb := X.2.1
  obtain ⟨kc, Mid, ⟨d1, mc1, ms1, hd1, hW⟩, hMM⟩ := hst
  refine lv_aload_n hx hb d_La_law_692 rfl (lv_at hl 1 rfl) ?_
  refine lv_aload_n hx hb d_La_law_693 rfl (lv_at hl 0 rfl) ?_
  refine lv_iload hx hb d_La_law_694 (lv_at hl 4 rfl) ?_
  refine lv_iconst (v := 1) hx hb d_La_law_696 (by decide) ?_
  refine lv_iadd hx hb d_La_law_697 ?_
  refine lv_topi (fun yy ey => ?_)
  obtain rfl : yy = nI (8 * n + 1) := by rw [ey]; exact nI_add (8 * n) 1
  clear ey
  refine pw_sld X hKs hS hXs hbl (vp_in_nI (by omega) (by omega)) d_La_law_698 ?_
  refine lv_topi (fun yy ey => ?_)
  obtain rfl : yy = xs (8 * n + 1) := by rw [ey]; rw [nI_clamp (by omega)]
  clear ey
  refine lv_aload_n hx hb d_La_law_699 rfl (lv_at hl 0 rfl) ?_
  refine lv_iload hx hb d_La_law_700 (lv_at hl 4 rfl) ?_
  refine lv_iconst (v := 2) hx hb d_La_law_702 (by decide) ?_
  refine lv_iadd hx hb d_La_law_703 ?_
  refine lv_topi (fun yy ey => ?_)
  obtain rfl : yy = nI (8 * n + 2) := by rw [ey]; exact nI_add (8 * n) 2
  clear ey
  refine pw_sld X hKs hS hXs hbl (vp_in_nI (by omega) (by omega)) d_La_law_704 ?_
  refine lv_topi (fun yy ey => ?_)
  obtain rfl : yy = xs (8 * n + 2) := by rw [ey]; rw [nI_clamp (by omega)]
  clear ey
  refine lv_aload_n hx hb d_La_law_705 rfl (lv_at hl 0 rfl) ?_
  refine lv_iload hx hb d_La_law_706 (lv_at hl 4 rfl) ?_
  refine lv_iconst (v := 3) hx hb d_La_law_708 (by decide) ?_
  refine lv_iadd hx hb d_La_law_709 ?_
  refine lv_topi (fun yy ey => ?_)
  obtain rfl : yy = nI (8 * n + 3) := by rw [ey]; exact nI_add (8 * n) 3
  clear ey
  refine pw_sld X hKs hS hXs hbl (vp_in_nI (by omega) (by omega)) d_La_law_710 ?_
  refine lv_topi (fun yy ey => ?_)
  obtain rfl : yy = xs (8 * n + 3) := by rw [ey]; rw [nI_clamp (by omega)]
  clear ey
  refine lv_i2l hx hb d_La_law_711 rfl ?_
  refine lv_bipush (v := 32) hx hb d_La_law_712 (by decide) ?_
  refine lv_lshl hx hb d_La_law_714 rfl ?_
  refine lv_aload_n hx hb d_La_law_715 rfl (lv_at hl 0 rfl) ?_
  refine lv_iload hx hb d_La_law_716 (lv_at hl 4 rfl) ?_
  refine lv_iconst (v := 4) hx hb d_La_law_718 (by decide) ?_
  refine lv_iadd hx hb d_La_law_719 ?_
  refine lv_topi (fun yy ey => ?_)
  obtain rfl : yy = nI (8 * n + 4) := by rw [ey]; exact nI_add (8 * n) 4
  clear ey
  refine pw_sld X hKs hS hXs hbl (vp_in_nI (by omega) (by omega)) d_La_law_720 ?_
  refine lv_topi (fun yy ey => ?_)
  obtain rfl : yy = xs (8 * n + 4) := by rw [ey]; rw [nI_clamp (by omega)]
  clear ey
  refine lv_i2l hx hb d_La_law_721 rfl ?_
  refine pw_ldc2 X w_kl_La_89 d_La_law_722 ?_
  refine lv_land hx hb d_La_law_725 ?_
  refine lv_lor hx hb d_La_law_726 ?_
  refine lv_topl (fun yy ey => ?_)
  obtain rfl : yy = lop (xs (8 * n + 3)) (xs (8 * n + 4)) := by rw [ey]; rfl
  clear ey
  refine lv_aload_n hx hb d_La_law_727 rfl (lv_at hl 0 rfl) ?_
  refine lv_iload hx hb d_La_law_728 (lv_at hl 4 rfl) ?_
  refine lv_iconst (v := 5) hx hb d_La_law_730 (by decide) ?_
  refine lv_iadd hx hb d_La_law_731 ?_
  refine lv_topi (fun yy ey => ?_)
  obtain rfl : yy = nI (8 * n + 5) := by rw [ey]; exact nI_add (8 * n) 5
  clear ey
  refine pw_sld X hKs hS hXs hbl (vp_in_nI (by omega) (by omega)) d_La_law_732 ?_
  refine lv_topi (fun yy ey => ?_)
  obtain rfl : yy = xs (8 * n + 5) := by rw [ey]; rw [nI_clamp (by omega)]
  clear ey
  refine lv_aload_n hx hb d_La_law_733 rfl (lv_at hl 3 rfl) ?_
  obtain ⟨PW, hW1, hPW⟩ := hW (Array.size H0)
  refine pw_callSW X hS (As := [.ref xa, .int (xs (8 * n + 1)), .int (xs (8 * n + 2)), .long (lop (xs (8 * n + 3)) (xs (8 * n + 4))), .int (xs (8 * n + 5)), .ref oa]) (rest := []) hW1 rfl w_cd_La_side w_ini_La w_ml_La_103 w_st_La_side hd_La_side rfl hl.1 (Nat.le_of_ble_eq_true rfl) d_La_law_734 ⟨by show d1 + 1 ≤ R.frames; omega, by show 8 + (8 + 11) + 64 * d1 ≤ R.locals; omega⟩ ⟨by show cells + mc1 ≤ R.cells; omega, by show slots + ms1 ≤ R.slots; omega⟩ (fun v1 f1 H1 lc1 hp1 hS1 => ?_)
  obtain ⟨rfl, hmid⟩ := hPW _ _ _ hp1
  clear hW hPW hp1 hS
  obtain ⟨⟨⟨fs1, hxa1⟩, ⟨th1, wr1, L1, Z1, S1, G1, P1, Ex1, O1, T1, V1, hm1⟩, hoa1⟩, bb, ⟨d2, mc2, ms2, hd2, hM⟩⟩ := hMM f1 hmid
  refine lv_istore (lv' := [(5, .int kc), (0, .ref b), (1, .ref xa), (2, .ref ma), (3, .ref oa), (4, .int (nI (8 * n)))]) hx hb d_La_law_737 hl (by decide) rfl (fun ls hl => ?_)
  refine lv_aload_n hx hb d_La_law_739 rfl (lv_at hl 3 rfl) ?_
  refine lv_aload_n hx hb d_La_law_740 rfl (lv_at hl 1 rfl) ?_
  refine lv_iload hx hb d_La_law_741 (lv_at hl 5 rfl) ?_
  refine lv_iconst (v := 1) hx hb d_La_law_743 (by decide) ?_
  refine lv_iadd hx hb d_La_law_744 ?_
  refine lv_topi (fun yy ey => ?_)
  obtain rfl : yy = nI (8 * n + 1) := by rw [ey]; exact nI_add (8 * n) 1
  clear ey
  refine pw_sld X hKs hS1 hXs hbl (vp_in_nI (by omega) (by omega)) d_La_law_745 ?_
  refine lv_topi (fun yy ey => ?_)
  obtain rfl : yy = xs (8 * n + 1) := by rw [ey]; rw [nI_clamp (by omega)]
  clear ey
  refine lv_aload_n hx hb d_La_law_746 rfl (lv_at hl 1 rfl) ?_
  refine lv_iload hx hb d_La_law_747 (lv_at hl 5 rfl) ?_
  refine lv_iconst (v := 2) hx hb d_La_law_749 (by decide) ?_
  refine lv_iadd hx hb d_La_law_750 ?_
  refine lv_topi (fun yy ey => ?_)
  obtain rfl : yy = nI (8 * n + 2) := by rw [ey]; exact nI_add (8 * n) 2
  clear ey
  refine pw_sld X hKs hS1 hXs hbl (vp_in_nI (by omega) (by omega)) d_La_law_751 ?_
  refine lv_topi (fun yy ey => ?_)
  obtain rfl : yy = xs (8 * n + 2) := by rw [ey]; rw [nI_clamp (by omega)]
  clear ey
  refine lv_aload_n hx hb d_La_law_752 rfl (lv_at hl 1 rfl) ?_
  refine lv_iload hx hb d_La_law_753 (lv_at hl 5 rfl) ?_
  refine lv_iconst (v := 3) hx hb d_La_law_755 (by decide) ?_
  refine lv_iadd hx hb d_La_law_756 ?_
  refine lv_topi (fun yy ey => ?_)
  obtain rfl : yy = nI (8 * n + 3) := by rw [ey]; exact nI_add (8 * n) 3
  clear ey
  refine pw_sld X hKs hS1 hXs hbl (vp_in_nI (by omega) (by omega)) d_La_law_757 ?_
  refine lv_topi (fun yy ey => ?_)
  obtain rfl : yy = xs (8 * n + 3) := by rw [ey]; rw [nI_clamp (by omega)]
  clear ey
  refine lv_i2l hx hb d_La_law_758 rfl ?_
  refine lv_bipush (v := 32) hx hb d_La_law_759 (by decide) ?_
  refine lv_lshl hx hb d_La_law_761 rfl ?_
  refine lv_aload_n hx hb d_La_law_762 rfl (lv_at hl 1 rfl) ?_
  refine lv_iload hx hb d_La_law_763 (lv_at hl 5 rfl) ?_
  refine lv_iconst (v := 4) hx hb d_La_law_765 (by decide) ?_
  refine lv_iadd hx hb d_La_law_766 ?_
  refine lv_topi (fun yy ey => ?_)
  obtain rfl : yy = nI (8 * n + 4) := by rw [ey]; exact nI_add (8 * n) 4
  clear ey
  refine pw_sld X hKs hS1 hXs hbl (vp_in_nI (by omega) (by omega)) d_La_law_767 ?_
  refine lv_topi (fun yy ey => ?_)
  obtain rfl : yy = xs (8 * n + 4) := by rw [ey]; rw [nI_clamp (by omega)]
  clear ey
  refine lv_i2l hx hb d_La_law_768 rfl ?_
  refine pw_ldc2 X w_kl_La_89 d_La_law_769 ?_
  refine lv_land hx hb d_La_law_772 ?_
  refine lv_lor hx hb d_La_law_773 ?_
  refine lv_topl (fun yy ey => ?_)
  obtain rfl : yy = lop (xs (8 * n + 3)) (xs (8 * n + 4)) := by rw [ey]; rfl
  clear ey
  refine lv_aload_n hx hb d_La_law_774 rfl (lv_at hl 1 rfl) ?_
  refine lv_iload hx hb d_La_law_775 (lv_at hl 5 rfl) ?_
  refine lv_iconst (v := 5) hx hb d_La_law_777 (by decide) ?_
  refine lv_iadd hx hb d_La_law_778 ?_
  refine lv_topi (fun yy ey => ?_)
  obtain rfl : yy = nI (8 * n + 5) := by rw [ey]; exact nI_add (8 * n) 5
  clear ey
  refine pw_sld X hKs hS1 hXs hbl (vp_in_nI (by omega) (by omega)) d_La_law_779 ?_
  refine lv_topi (fun yy ey => ?_)
  obtain rfl : yy = xs (8 * n + 5) := by rw [ey]; rw [nI_clamp (by omega)]
  clear ey
  obtain ⟨PM, hM1, hPM⟩ := hM (Array.size H1)
  refine pw_callV X hS1 (As := [.int (xs (8 * n + 1)), .int (xs (8 * n + 2)), .long (lop (xs (8 * n + 3)) (xs (8 * n + 4))), .int (xs (8 * n + 5))]) (rest := []) hM1 rfl w_cd_Mo_side w_ini_Mo w_ml_La_106 w_im_Mo_side w_se_Mo_side hm1.1 rfl hd_Mo_side rfl hl.1 (Nat.le_of_ble_eq_true rfl) d_La_law_780 ⟨by show d2 + 1 ≤ R.frames; omega, by show 8 + (6 + 11) + 64 * d2 ≤ R.locals; omega⟩ ⟨by show cells + mc1 + mc2 ≤ R.cells; omega, by show slots + ms1 + ms2 ≤ R.slots; omega⟩ (fun v2 f2 H2 lc2 hp2 hS2 => ?_)
  obtain ⟨rfl, hae⟩ := hPM _ _ _ hp2
  clear hM hPM hp2 hS1
  obtain ⟨⟨fs2, hxa2⟩, ⟨wr2, L2, Z2, S2, G2, P2, Ex2, O2, T2, V2, hm2⟩, ⟨go, hoa2, hgo⟩, hJ⟩ := hae
  refine lv_istore (lv' := [(6, .int bb), (5, .int kc), (0, .ref b), (1, .ref xa), (2, .ref ma), (3, .ref oa), (4, .int (nI (8 * n)))]) hx hb d_La_law_783 hl (by decide) rfl (fun ls hl => ?_)
  refine lv_aload_n hx hb d_La_law_785 rfl (lv_at hl 4 rfl) ?_
  refine pw_callVR X hS2 (As := []) (rest := []) (r_Mo_thrown l K f2 ma (Array.size H2) kc wr2 L2 Z2 S2 G2 P2 Ex2 O2 T2 V2 hm2) rfl w_cd_Mo_thrown w_ini_Mo w_ml_La_76 w_im_Mo_thrown w_se_Mo_thrown hm2.1 rfl hd_Mo_thrown rfl hl.1 (Nat.le_of_ble_eq_true rfl) d_La_law_786 ⟨by show 1 + 1 ≤ R.frames; omega, by show 8 + (1 + 11) + 64 * 1 ≤ R.locals; omega⟩ ⟨by show cells + mc1 + mc2 ≤ R.cells; omega, by show slots + ms1 + ms2 ≤ R.slots; omega⟩ ?_
  refine lv_iload hx hb d_La_law_789 (lv_at hl 1 rfl) ?_
  refine lv_icmp_eq (tgt := 796) hx hb d_La_law_791 (by decide) (fun _ => ?_) (fun cw => absurd cw (not_not_intro rfl))
  refine lv_iload hx hb d_La_law_796 (lv_at hl 1 rfl) ?_
  refine lv_if_ne (tgt := 813) hx hb d_La_law_798 (by decide) (fun ck => ?_) (fun ck => ?_)
  · refine lv_goto (tgt := 1215) hx hb d_La_law_813 (by decide) ?_
    refine W.widen (k := cells + 1000) (n := slots + 12000) (by show cells + mc1 + mc2 ≤ _; omega) (by show slots + ms1 + ms2 ≤ _; omega) ?_
    exact kk f2 H2 lc2 ls (lv_sub hl [2, 3, 4, 5, 6] rfl) hS2 hJ ⟨⟨fs2, hxa2⟩, ⟨kc, wr2, L2, Z2, S2, G2, P2, Ex2, O2, T2, V2, hm2⟩, ⟨go, hoa2⟩⟩
  · refine lv_aload_n hx hb d_La_law_801 rfl (lv_at hl 5 rfl) ?_
    refine lv_iconst (v := 0) hx hb d_La_law_802 (by decide) ?_
    refine pw_lld X hS2 hoa2 (vp_in_nI (n := 0) (by decide) (by decide)) d_La_law_803 ?_
    refine lv_topl (fun yy ey => ?_)
    obtain rfl : yy = bb.toInt64 := by rw [ey]; exact hgo ck
    clear ey
    refine lv_iload hx hb d_La_law_804 (lv_at hl 0 rfl) ?_
    refine lv_i2l hx hb d_La_law_806 rfl ?_
    refine W.lcmp hx hb d_La_law_807 ?_
    refine lv_if_eq (tgt := 813) hx hb d_La_law_808 (by decide) (fun _ => ?_) (fun cw => absurd cw (not_not_intro ((lg_cmp_eq _ _).mpr rfl)))
    refine lv_goto (tgt := 1215) hx hb d_La_law_813 (by decide) ?_
    refine W.widen (k := cells + 1000) (n := slots + 12000) (by show cells + mc1 + mc2 ≤ _; omega) (by show slots + ms1 + ms2 ≤ _; omega) ?_
    exact kk f2 H2 lc2 ls (lv_sub hl [2, 3, 4, 5, 6] rfl) hS2 hJ ⟨⟨fs2, hxa2⟩, ⟨kc, wr2, L2, Z2, S2, G2, P2, Ex2, O2, T2, V2, hm2⟩, ⟨go, hoa2⟩⟩
set_option maxHeartbeats 4000000 in
set_option maxRecDepth 100000 in
theorem la_floor {p : Program} {e : Env} {R : Room} {s : State} {m : MethodId} {args : Array Value} {below : List Frame} {meth : Method} {c : Code} {cells slots : Nat} {Q : State → Prop} (l : Launch) (K : pw_K) (xa ma oa : Nat) {b Ln : Nat} {xs : Nat → Int32} (X : pw_X p s m args meth c K R_La code 8) (hKs : pZ K = s) (hXs : va_X b Ln xs s s.heap) (hbl : b < s.heap.size) (hL : Ln < 2 ^ 31) (hR : 1100 ≤ R.frames ∧ 70000 ≤ R.locals ∧ cells + 1000 ≤ R.cells ∧ slots + 12000 ≤ R.slots) (n : Nat) (hn : 8 * n + 8 ≤ Ln) (f : pw_F) (J : pw_F → Prop) (hst : st_floor l K xa ma oa (xs (8 * n + 1)) (xs (8 * n + 2)) (if xs (8 * n + 3) = 0 then 0 else 1) (xs (8 * n + 4)) f J) (kk : ∀ (f2 : pw_F) (H2 : Heap) (lc2 : List Loc) (ls : Array Slot), lv_has ls 8 [(0, .ref b), (1, .ref xa), (2, .ref ma), (3, .ref oa), (4, .int (nI (8 * n)))] → pw_S K f2 H2 lc2 → J f2 → bas K xa ma oa f2 → W p l e R s m args below meth c H2 lc2 (cells + 1000) (slots + 12000) Q (F0 m 1215 ls [])) (H0 : Heap) (lc0 : List Loc) (ls : Array Slot) (hl : lv_has ls 8 [(0, .ref b), (1, .ref xa), (2, .ref ma), (3, .ref oa), (4, .int (nI (8 * n)))]) (hS : pw_S K f H0 lc0) : W p l e R s m args below meth c H0 lc0 cells slots Q (F0 m 816 ls []) := by
  have hx := X.1
  have hb := X.2.1
  by_cases hf : xs (8 * n + 3) = 0
  · rw [if_pos hf] at hst
    obtain ⟨kc, Mid, ⟨d1, mc1, ms1, hd1, hW⟩, hMM⟩ := hst
    refine lv_aload_n hx hb d_La_law_816 rfl (lv_at hl 1 rfl) ?_
    refine lv_aload_n hx hb d_La_law_817 rfl (lv_at hl 0 rfl) ?_
    refine lv_iload hx hb d_La_law_818 (lv_at hl 4 rfl) ?_
    refine lv_iconst (v := 1) hx hb d_La_law_820 (by decide) ?_
    refine lv_iadd hx hb d_La_law_821 ?_
    refine lv_topi (fun yy ey => ?_)
    obtain rfl : yy = nI (8 * n + 1) := by rw [ey]; exact nI_add (8 * n) 1
    clear ey
    refine pw_sld X hKs hS hXs hbl (vp_in_nI (by omega) (by omega)) d_La_law_822 ?_
    refine lv_topi (fun yy ey => ?_)
    obtain rfl : yy = xs (8 * n + 1) := by rw [ey]; rw [nI_clamp (by omega)]
    clear ey
    refine lv_aload_n hx hb d_La_law_823 rfl (lv_at hl 0 rfl) ?_
    refine lv_iload hx hb d_La_law_824 (lv_at hl 4 rfl) ?_
    refine lv_iconst (v := 2) hx hb d_La_law_826 (by decide) ?_
    refine lv_iadd hx hb d_La_law_827 ?_
    refine lv_topi (fun yy ey => ?_)
    obtain rfl : yy = nI (8 * n + 2) := by rw [ey]; exact nI_add (8 * n) 2
    clear ey
    refine pw_sld X hKs hS hXs hbl (vp_in_nI (by omega) (by omega)) d_La_law_828 ?_
    refine lv_topi (fun yy ey => ?_)
    obtain rfl : yy = xs (8 * n + 2) := by rw [ey]; rw [nI_clamp (by omega)]
    clear ey
    refine lv_aload_n hx hb d_La_law_829 rfl (lv_at hl 0 rfl) ?_
    refine lv_iload hx hb d_La_law_830 (lv_at hl 4 rfl) ?_
    refine lv_iconst (v := 3) hx hb d_La_law_832 (by decide) ?_
    refine lv_iadd hx hb d_La_law_833 ?_
    refine lv_topi (fun yy ey => ?_)
    obtain rfl : yy = nI (8 * n + 3) := by rw [ey]; exact nI_add (8 * n) 3
    clear ey
    refine pw_sld X hKs hS hXs hbl (vp_in_nI (by omega) (by omega)) d_La_law_834 ?_
    refine lv_topi (fun yy ey => ?_)
    obtain rfl : yy = xs (8 * n + 3) := by rw [ey]; rw [nI_clamp (by omega)]
    clear ey
    refine lv_if_eq (tgt := 842) hx hb d_La_law_835 (by decide) (fun _ => ?_) (fun cw => absurd cw (not_not_intro hf))
    refine lv_iconst (v := 0) hx hb d_La_law_842 (by decide) ?_
    refine lv_aload_n hx hb d_La_law_843 rfl (lv_at hl 0 rfl) ?_
    refine lv_iload hx hb d_La_law_844 (lv_at hl 4 rfl) ?_
    refine lv_iconst (v := 4) hx hb d_La_law_846 (by decide) ?_
    refine lv_iadd hx hb d_La_law_847 ?_
    refine lv_topi (fun yy ey => ?_)
    obtain rfl : yy = nI (8 * n + 4) := by rw [ey]; exact nI_add (8 * n) 4
    clear ey
    refine pw_sld X hKs hS hXs hbl (vp_in_nI (by omega) (by omega)) d_La_law_848 ?_
    refine lv_topi (fun yy ey => ?_)
    obtain rfl : yy = xs (8 * n + 4) := by rw [ey]; rw [nI_clamp (by omega)]
    clear ey
    refine lv_aload_n hx hb d_La_law_849 rfl (lv_at hl 3 rfl) ?_
    obtain ⟨PW, hW1, hPW⟩ := hW (Array.size H0)
    refine pw_callSW X hS (As := [.ref xa, .int (xs (8 * n + 1)), .int (xs (8 * n + 2)), .int 0, .int (xs (8 * n + 4)), .ref oa]) (rest := []) hW1 rfl w_cd_La_floor w_ini_La w_ml_La_107 w_st_La_floor hd_La_floor rfl hl.1 (Nat.le_of_ble_eq_true rfl) d_La_law_850 ⟨by show d1 + 1 ≤ R.frames; omega, by show 8 + (7 + 11) + 64 * d1 ≤ R.locals; omega⟩ ⟨by show cells + mc1 ≤ R.cells; omega, by show slots + ms1 ≤ R.slots; omega⟩ (fun v1 f1 H1 lc1 hp1 hS1 => ?_)
    obtain ⟨rfl, hmid⟩ := hPW _ _ _ hp1
    clear hW hPW hp1 hS
    obtain ⟨⟨⟨fs1, hxa1⟩, ⟨th1, wr1, L1, Z1, S1, G1, P1, Ex1, O1, T1, V1, hm1⟩, hoa1⟩, bb, ⟨d2, mc2, ms2, hd2, hM⟩⟩ := hMM f1 hmid
    refine lv_istore (lv' := [(5, .int kc), (0, .ref b), (1, .ref xa), (2, .ref ma), (3, .ref oa), (4, .int (nI (8 * n)))]) hx hb d_La_law_853 hl (by decide) rfl (fun ls hl => ?_)
    refine lv_aload_n hx hb d_La_law_855 rfl (lv_at hl 3 rfl) ?_
    refine lv_aload_n hx hb d_La_law_856 rfl (lv_at hl 1 rfl) ?_
    refine lv_iload hx hb d_La_law_857 (lv_at hl 5 rfl) ?_
    refine lv_iconst (v := 1) hx hb d_La_law_859 (by decide) ?_
    refine lv_iadd hx hb d_La_law_860 ?_
    refine lv_topi (fun yy ey => ?_)
    obtain rfl : yy = nI (8 * n + 1) := by rw [ey]; exact nI_add (8 * n) 1
    clear ey
    refine pw_sld X hKs hS1 hXs hbl (vp_in_nI (by omega) (by omega)) d_La_law_861 ?_
    refine lv_topi (fun yy ey => ?_)
    obtain rfl : yy = xs (8 * n + 1) := by rw [ey]; rw [nI_clamp (by omega)]
    clear ey
    refine lv_aload_n hx hb d_La_law_862 rfl (lv_at hl 1 rfl) ?_
    refine lv_iload hx hb d_La_law_863 (lv_at hl 5 rfl) ?_
    refine lv_iconst (v := 2) hx hb d_La_law_865 (by decide) ?_
    refine lv_iadd hx hb d_La_law_866 ?_
    refine lv_topi (fun yy ey => ?_)
    obtain rfl : yy = nI (8 * n + 2) := by rw [ey]; exact nI_add (8 * n) 2
    clear ey
    refine pw_sld X hKs hS1 hXs hbl (vp_in_nI (by omega) (by omega)) d_La_law_867 ?_
    refine lv_topi (fun yy ey => ?_)
    obtain rfl : yy = xs (8 * n + 2) := by rw [ey]; rw [nI_clamp (by omega)]
    clear ey
    refine lv_aload_n hx hb d_La_law_868 rfl (lv_at hl 1 rfl) ?_
    refine lv_iload hx hb d_La_law_869 (lv_at hl 5 rfl) ?_
    refine lv_iconst (v := 3) hx hb d_La_law_871 (by decide) ?_
    refine lv_iadd hx hb d_La_law_872 ?_
    refine lv_topi (fun yy ey => ?_)
    obtain rfl : yy = nI (8 * n + 3) := by rw [ey]; exact nI_add (8 * n) 3
    clear ey
    refine pw_sld X hKs hS1 hXs hbl (vp_in_nI (by omega) (by omega)) d_La_law_873 ?_
    refine lv_topi (fun yy ey => ?_)
    obtain rfl : yy = xs (8 * n + 3) := by rw [ey]; rw [nI_clamp (by omega)]
    clear ey
    refine lv_if_eq (tgt := 881) hx hb d_La_law_874 (by decide) (fun _ => ?_) (fun cw => absurd cw (not_not_intro hf))
    refine lv_iconst (v := 0) hx hb d_La_law_881 (by decide) ?_
    refine lv_aload_n hx hb d_La_law_882 rfl (lv_at hl 1 rfl) ?_
    refine lv_iload hx hb d_La_law_883 (lv_at hl 5 rfl) ?_
    refine lv_iconst (v := 4) hx hb d_La_law_885 (by decide) ?_
    refine lv_iadd hx hb d_La_law_886 ?_
    refine lv_topi (fun yy ey => ?_)
    obtain rfl : yy = nI (8 * n + 4) := by rw [ey]; exact nI_add (8 * n) 4
    clear ey
    refine pw_sld X hKs hS1 hXs hbl (vp_in_nI (by omega) (by omega)) d_La_law_887 ?_
    refine lv_topi (fun yy ey => ?_)
    obtain rfl : yy = xs (8 * n + 4) := by rw [ey]; rw [nI_clamp (by omega)]
    clear ey
    obtain ⟨PM, hM1, hPM⟩ := hM (Array.size H1)
    refine pw_callV X hS1 (As := [.int (xs (8 * n + 1)), .int (xs (8 * n + 2)), .int 0, .int (xs (8 * n + 4))]) (rest := []) hM1 rfl w_cd_Mo_floor w_ini_Mo w_ml_La_110 w_im_Mo_floor w_se_Mo_floor hm1.1 rfl hd_Mo_floor rfl hl.1 (Nat.le_of_ble_eq_true rfl) d_La_law_888 ⟨by show d2 + 1 ≤ R.frames; omega, by show 8 + (7 + 11) + 64 * d2 ≤ R.locals; omega⟩ ⟨by show cells + mc1 + mc2 ≤ R.cells; omega, by show slots + ms1 + ms2 ≤ R.slots; omega⟩ (fun v2 f2 H2 lc2 hp2 hS2 => ?_)
    obtain ⟨rfl, hae⟩ := hPM _ _ _ hp2
    clear hM hPM hp2 hS1
    obtain ⟨⟨fs2, hxa2⟩, ⟨wr2, L2, Z2, S2, G2, P2, Ex2, O2, T2, V2, hm2⟩, ⟨go, hoa2, hgo⟩, hJ⟩ := hae
    refine lv_istore (lv' := [(6, .int bb), (5, .int kc), (0, .ref b), (1, .ref xa), (2, .ref ma), (3, .ref oa), (4, .int (nI (8 * n)))]) hx hb d_La_law_891 hl (by decide) rfl (fun ls hl => ?_)
    refine lv_aload_n hx hb d_La_law_893 rfl (lv_at hl 4 rfl) ?_
    refine pw_callVR X hS2 (As := []) (rest := []) (r_Mo_thrown l K f2 ma (Array.size H2) kc wr2 L2 Z2 S2 G2 P2 Ex2 O2 T2 V2 hm2) rfl w_cd_Mo_thrown w_ini_Mo w_ml_La_76 w_im_Mo_thrown w_se_Mo_thrown hm2.1 rfl hd_Mo_thrown rfl hl.1 (Nat.le_of_ble_eq_true rfl) d_La_law_894 ⟨by show 1 + 1 ≤ R.frames; omega, by show 8 + (1 + 11) + 64 * 1 ≤ R.locals; omega⟩ ⟨by show cells + mc1 + mc2 ≤ R.cells; omega, by show slots + ms1 + ms2 ≤ R.slots; omega⟩ ?_
    refine lv_iload hx hb d_La_law_897 (lv_at hl 1 rfl) ?_
    refine lv_icmp_eq (tgt := 904) hx hb d_La_law_899 (by decide) (fun _ => ?_) (fun cw => absurd cw (not_not_intro rfl))
    refine lv_iload hx hb d_La_law_904 (lv_at hl 1 rfl) ?_
    refine lv_if_ne (tgt := 921) hx hb d_La_law_906 (by decide) (fun ck => ?_) (fun ck => ?_)
    · refine lv_goto (tgt := 1215) hx hb d_La_law_921 (by decide) ?_
      refine W.widen (k := cells + 1000) (n := slots + 12000) (by show cells + mc1 + mc2 ≤ _; omega) (by show slots + ms1 + ms2 ≤ _; omega) ?_
      exact kk f2 H2 lc2 ls (lv_sub hl [2, 3, 4, 5, 6] rfl) hS2 hJ ⟨⟨fs2, hxa2⟩, ⟨kc, wr2, L2, Z2, S2, G2, P2, Ex2, O2, T2, V2, hm2⟩, ⟨go, hoa2⟩⟩
    · refine lv_aload_n hx hb d_La_law_909 rfl (lv_at hl 5 rfl) ?_
      refine lv_iconst (v := 0) hx hb d_La_law_910 (by decide) ?_
      refine pw_lld X hS2 hoa2 (vp_in_nI (n := 0) (by decide) (by decide)) d_La_law_911 ?_
      refine lv_topl (fun yy ey => ?_)
      obtain rfl : yy = bb.toInt64 := by rw [ey]; exact hgo ck
      clear ey
      refine lv_iload hx hb d_La_law_912 (lv_at hl 0 rfl) ?_
      refine lv_i2l hx hb d_La_law_914 rfl ?_
      refine W.lcmp hx hb d_La_law_915 ?_
      refine lv_if_eq (tgt := 921) hx hb d_La_law_916 (by decide) (fun _ => ?_) (fun cw => absurd cw (not_not_intro ((lg_cmp_eq _ _).mpr rfl)))
      refine lv_goto (tgt := 1215) hx hb d_La_law_921 (by decide) ?_
      refine W.widen (k := cells + 1000) (n := slots + 12000) (by show cells + mc1 + mc2 ≤ _; omega) (by show slots + ms1 + ms2 ≤ _; omega) ?_
      exact kk f2 H2 lc2 ls (lv_sub hl [2, 3, 4, 5, 6] rfl) hS2 hJ ⟨⟨fs2, hxa2⟩, ⟨kc, wr2, L2, Z2, S2, G2, P2, Ex2, O2, T2, V2, hm2⟩, ⟨go, hoa2⟩⟩
  · rw [if_neg hf] at hst
    obtain ⟨kc, Mid, ⟨d1, mc1, ms1, hd1, hW⟩, hMM⟩ := hst
    refine lv_aload_n hx hb d_La_law_816 rfl (lv_at hl 1 rfl) ?_
    refine lv_aload_n hx hb d_La_law_817 rfl (lv_at hl 0 rfl) ?_
    refine lv_iload hx hb d_La_law_818 (lv_at hl 4 rfl) ?_
    refine lv_iconst (v := 1) hx hb d_La_law_820 (by decide) ?_
    refine lv_iadd hx hb d_La_law_821 ?_
    refine lv_topi (fun yy ey => ?_)
    obtain rfl : yy = nI (8 * n + 1) := by rw [ey]; exact nI_add (8 * n) 1
    clear ey
    refine pw_sld X hKs hS hXs hbl (vp_in_nI (by omega) (by omega)) d_La_law_822 ?_
    refine lv_topi (fun yy ey => ?_)
    obtain rfl : yy = xs (8 * n + 1) := by rw [ey]; rw [nI_clamp (by omega)]
    clear ey
    refine lv_aload_n hx hb d_La_law_823 rfl (lv_at hl 0 rfl) ?_
    refine lv_iload hx hb d_La_law_824 (lv_at hl 4 rfl) ?_
    refine lv_iconst (v := 2) hx hb d_La_law_826 (by decide) ?_
    refine lv_iadd hx hb d_La_law_827 ?_
    refine lv_topi (fun yy ey => ?_)
    obtain rfl : yy = nI (8 * n + 2) := by rw [ey]; exact nI_add (8 * n) 2
    clear ey
    refine pw_sld X hKs hS hXs hbl (vp_in_nI (by omega) (by omega)) d_La_law_828 ?_
    refine lv_topi (fun yy ey => ?_)
    obtain rfl : yy = xs (8 * n + 2) := by rw [ey]; rw [nI_clamp (by omega)]
    clear ey
    refine lv_aload_n hx hb d_La_law_829 rfl (lv_at hl 0 rfl) ?_
    refine lv_iload hx hb d_La_law_830 (lv_at hl 4 rfl) ?_
    refine lv_iconst (v := 3) hx hb d_La_law_832 (by decide) ?_
    refine lv_iadd hx hb d_La_law_833 ?_
    refine lv_topi (fun yy ey => ?_)
    obtain rfl : yy = nI (8 * n + 3) := by rw [ey]; exact nI_add (8 * n) 3
    clear ey
    refine pw_sld X hKs hS hXs hbl (vp_in_nI (by omega) (by omega)) d_La_law_834 ?_
    refine lv_topi (fun yy ey => ?_)
    obtain rfl : yy = xs (8 * n + 3) := by rw [ey]; rw [nI_clamp (by omega)]
    clear ey
    refine lv_if_eq (tgt := 842) hx hb d_La_law_835 (by decide) (fun cw => absurd cw (hf)) (fun _ => ?_)
    refine lv_iconst (v := 1) hx hb d_La_law_838 (by decide) ?_
    refine lv_goto (tgt := 843) hx hb d_La_law_839 (by decide) ?_
    refine lv_aload_n hx hb d_La_law_843 rfl (lv_at hl 0 rfl) ?_
    refine lv_iload hx hb d_La_law_844 (lv_at hl 4 rfl) ?_
    refine lv_iconst (v := 4) hx hb d_La_law_846 (by decide) ?_
    refine lv_iadd hx hb d_La_law_847 ?_
    refine lv_topi (fun yy ey => ?_)
    obtain rfl : yy = nI (8 * n + 4) := by rw [ey]; exact nI_add (8 * n) 4
    clear ey
    refine pw_sld X hKs hS hXs hbl (vp_in_nI (by omega) (by omega)) d_La_law_848 ?_
    refine lv_topi (fun yy ey => ?_)
    obtain rfl : yy = xs (8 * n + 4) := by rw [ey]; rw [nI_clamp (by omega)]
    clear ey
    refine lv_aload_n hx hb d_La_law_849 rfl (lv_at hl 3 rfl) ?_
    obtain ⟨PW, hW1, hPW⟩ := hW (Array.size H0)
    refine pw_callSW X hS (As := [.ref xa, .int (xs (8 * n + 1)), .int (xs (8 * n + 2)), .int 1, .int (xs (8 * n + 4)), .ref oa]) (rest := []) hW1 rfl w_cd_La_floor w_ini_La w_ml_La_107 w_st_La_floor hd_La_floor rfl hl.1 (Nat.le_of_ble_eq_true rfl) d_La_law_850 ⟨by show d1 + 1 ≤ R.frames; omega, by show 8 + (7 + 11) + 64 * d1 ≤ R.locals; omega⟩ ⟨by show cells + mc1 ≤ R.cells; omega, by show slots + ms1 ≤ R.slots; omega⟩ (fun v1 f1 H1 lc1 hp1 hS1 => ?_)
    obtain ⟨rfl, hmid⟩ := hPW _ _ _ hp1
    clear hW hPW hp1 hS
    obtain ⟨⟨⟨fs1, hxa1⟩, ⟨th1, wr1, L1, Z1, S1, G1, P1, Ex1, O1, T1, V1, hm1⟩, hoa1⟩, bb, ⟨d2, mc2, ms2, hd2, hM⟩⟩ := hMM f1 hmid
    refine lv_istore (lv' := [(5, .int kc), (0, .ref b), (1, .ref xa), (2, .ref ma), (3, .ref oa), (4, .int (nI (8 * n)))]) hx hb d_La_law_853 hl (by decide) rfl (fun ls hl => ?_)
    refine lv_aload_n hx hb d_La_law_855 rfl (lv_at hl 3 rfl) ?_
    refine lv_aload_n hx hb d_La_law_856 rfl (lv_at hl 1 rfl) ?_
    refine lv_iload hx hb d_La_law_857 (lv_at hl 5 rfl) ?_
    refine lv_iconst (v := 1) hx hb d_La_law_859 (by decide) ?_
    refine lv_iadd hx hb d_La_law_860 ?_
    refine lv_topi (fun yy ey => ?_)
    obtain rfl : yy = nI (8 * n + 1) := by rw [ey]; exact nI_add (8 * n) 1
    clear ey
    refine pw_sld X hKs hS1 hXs hbl (vp_in_nI (by omega) (by omega)) d_La_law_861 ?_
    refine lv_topi (fun yy ey => ?_)
    obtain rfl : yy = xs (8 * n + 1) := by rw [ey]; rw [nI_clamp (by omega)]
    clear ey
    refine lv_aload_n hx hb d_La_law_862 rfl (lv_at hl 1 rfl) ?_
    refine lv_iload hx hb d_La_law_863 (lv_at hl 5 rfl) ?_
    refine lv_iconst (v := 2) hx hb d_La_law_865 (by decide) ?_
    refine lv_iadd hx hb d_La_law_866 ?_
    refine lv_topi (fun yy ey => ?_)
    obtain rfl : yy = nI (8 * n + 2) := by rw [ey]; exact nI_add (8 * n) 2
    clear ey
    refine pw_sld X hKs hS1 hXs hbl (vp_in_nI (by omega) (by omega)) d_La_law_867 ?_
    refine lv_topi (fun yy ey => ?_)
    obtain rfl : yy = xs (8 * n + 2) := by rw [ey]; rw [nI_clamp (by omega)]
    clear ey
    refine lv_aload_n hx hb d_La_law_868 rfl (lv_at hl 1 rfl) ?_
    refine lv_iload hx hb d_La_law_869 (lv_at hl 5 rfl) ?_
    refine lv_iconst (v := 3) hx hb d_La_law_871 (by decide) ?_
    refine lv_iadd hx hb d_La_law_872 ?_
    refine lv_topi (fun yy ey => ?_)
    obtain rfl : yy = nI (8 * n + 3) := by rw [ey]; exact nI_add (8 * n) 3
    clear ey
    refine pw_sld X hKs hS1 hXs hbl (vp_in_nI (by omega) (by omega)) d_La_law_873 ?_
    refine lv_topi (fun yy ey => ?_)
    obtain rfl : yy = xs (8 * n + 3) := by rw [ey]; rw [nI_clamp (by omega)]
    clear ey
    refine lv_if_eq (tgt := 881) hx hb d_La_law_874 (by decide) (fun cw => absurd cw (hf)) (fun _ => ?_)
    refine lv_iconst (v := 1) hx hb d_La_law_877 (by decide) ?_
    refine lv_goto (tgt := 882) hx hb d_La_law_878 (by decide) ?_
    refine lv_aload_n hx hb d_La_law_882 rfl (lv_at hl 1 rfl) ?_
    refine lv_iload hx hb d_La_law_883 (lv_at hl 5 rfl) ?_
    refine lv_iconst (v := 4) hx hb d_La_law_885 (by decide) ?_
    refine lv_iadd hx hb d_La_law_886 ?_
    refine lv_topi (fun yy ey => ?_)
    obtain rfl : yy = nI (8 * n + 4) := by rw [ey]; exact nI_add (8 * n) 4
    clear ey
    refine pw_sld X hKs hS1 hXs hbl (vp_in_nI (by omega) (by omega)) d_La_law_887 ?_
    refine lv_topi (fun yy ey => ?_)
    obtain rfl : yy = xs (8 * n + 4) := by rw [ey]; rw [nI_clamp (by omega)]
    clear ey
    obtain ⟨PM, hM1, hPM⟩ := hM (Array.size H1)
    refine pw_callV X hS1 (As := [.int (xs (8 * n + 1)), .int (xs (8 * n + 2)), .int 1, .int (xs (8 * n + 4))]) (rest := []) hM1 rfl w_cd_Mo_floor w_ini_Mo w_ml_La_110 w_im_Mo_floor w_se_Mo_floor hm1.1 rfl hd_Mo_floor rfl hl.1 (Nat.le_of_ble_eq_true rfl) d_La_law_888 ⟨by show d2 + 1 ≤ R.frames; omega, by show 8 + (7 + 11) + 64 * d2 ≤ R.locals; omega⟩ ⟨by show cells + mc1 + mc2 ≤ R.cells; omega, by show slots + ms1 + ms2 ≤ R.slots; omega⟩ (fun v2 f2 H2 lc2 hp2 hS2 => ?_)
    obtain ⟨rfl, hae⟩ := hPM _ _ _ hp2
    clear hM hPM hp2 hS1
    obtain ⟨⟨fs2, hxa2⟩, ⟨wr2, L2, Z2, S2, G2, P2, Ex2, O2, T2, V2, hm2⟩, ⟨go, hoa2, hgo⟩, hJ⟩ := hae
    refine lv_istore (lv' := [(6, .int bb), (5, .int kc), (0, .ref b), (1, .ref xa), (2, .ref ma), (3, .ref oa), (4, .int (nI (8 * n)))]) hx hb d_La_law_891 hl (by decide) rfl (fun ls hl => ?_)
    refine lv_aload_n hx hb d_La_law_893 rfl (lv_at hl 4 rfl) ?_
    refine pw_callVR X hS2 (As := []) (rest := []) (r_Mo_thrown l K f2 ma (Array.size H2) kc wr2 L2 Z2 S2 G2 P2 Ex2 O2 T2 V2 hm2) rfl w_cd_Mo_thrown w_ini_Mo w_ml_La_76 w_im_Mo_thrown w_se_Mo_thrown hm2.1 rfl hd_Mo_thrown rfl hl.1 (Nat.le_of_ble_eq_true rfl) d_La_law_894 ⟨by show 1 + 1 ≤ R.frames; omega, by show 8 + (1 + 11) + 64 * 1 ≤ R.locals; omega⟩ ⟨by show cells + mc1 + mc2 ≤ R.cells; omega, by show slots + ms1 + ms2 ≤ R.slots; omega⟩ ?_
    refine lv_iload hx hb d_La_law_897 (lv_at hl 1 rfl) ?_
    refine lv_icmp_eq (tgt := 904) hx hb d_La_law_899 (by decide) (fun _ => ?_) (fun cw => absurd cw (not_not_intro rfl))
    refine lv_iload hx hb d_La_law_904 (lv_at hl 1 rfl) ?_
    refine lv_if_ne (tgt := 921) hx hb d_La_law_906 (by decide) (fun ck => ?_) (fun ck => ?_)
    · refine lv_goto (tgt := 1215) hx hb d_La_law_921 (by decide) ?_
      refine W.widen (k := cells + 1000) (n := slots + 12000) (by show cells + mc1 + mc2 ≤ _; omega) (by show slots + ms1 + ms2 ≤ _; omega) ?_
      exact kk f2 H2 lc2 ls (lv_sub hl [2, 3, 4, 5, 6] rfl) hS2 hJ ⟨⟨fs2, hxa2⟩, ⟨kc, wr2, L2, Z2, S2, G2, P2, Ex2, O2, T2, V2, hm2⟩, ⟨go, hoa2⟩⟩
    · refine lv_aload_n hx hb d_La_law_909 rfl (lv_at hl 5 rfl) ?_
      refine lv_iconst (v := 0) hx hb d_La_law_910 (by decide) ?_
      refine pw_lld X hS2 hoa2 (vp_in_nI (n := 0) (by decide) (by decide)) d_La_law_911 ?_
      refine lv_topl (fun yy ey => ?_)
      obtain rfl : yy = bb.toInt64 := by rw [ey]; exact hgo ck
      clear ey
      refine lv_iload hx hb d_La_law_912 (lv_at hl 0 rfl) ?_
      refine lv_i2l hx hb d_La_law_914 rfl ?_
      refine W.lcmp hx hb d_La_law_915 ?_
      refine lv_if_eq (tgt := 921) hx hb d_La_law_916 (by decide) (fun _ => ?_) (fun cw => absurd cw (not_not_intro ((lg_cmp_eq _ _).mpr rfl)))
      refine lv_goto (tgt := 1215) hx hb d_La_law_921 (by decide) ?_
      refine W.widen (k := cells + 1000) (n := slots + 12000) (by show cells + mc1 + mc2 ≤ _; omega) (by show slots + ms1 + ms2 ≤ _; omega) ?_
      exact kk f2 H2 lc2 ls (lv_sub hl [2, 3, 4, 5, 6] rfl) hS2 hJ ⟨⟨fs2, hxa2⟩, ⟨kc, wr2, L2, Z2, S2, G2, P2, Ex2, O2, T2, V2, hm2⟩, ⟨go, hoa2⟩⟩
set_option maxHeartbeats 4000000 in
set_option maxRecDepth 100000 in
theorem la_apart {p : Program} {e : Env} {R : Room} {s : State} {m : MethodId} {args : Array Value} {below : List Frame} {meth : Method} {c : Code} {cells slots : Nat} {Q : State → Prop} (l : Launch) (K : pw_K) (xa ma oa : Nat) {b Ln : Nat} {xs : Nat → Int32} (X : pw_X p s m args meth c K R_La code 8) (hKs : pZ K = s) (hXs : va_X b Ln xs s s.heap) (hbl : b < s.heap.size) (hL : Ln < 2 ^ 31) (hR : 1100 ≤ R.frames ∧ 70000 ≤ R.locals ∧ cells + 1000 ≤ R.cells ∧ slots + 12000 ≤ R.slots) (n : Nat) (hn : 8 * n + 8 ≤ Ln) (f : pw_F) (J : pw_F → Prop) (hst : st_apart l K xa ma oa (xs (8 * n + 1)) f J) (kk : ∀ (f2 : pw_F) (H2 : Heap) (lc2 : List Loc) (ls : Array Slot), lv_has ls 8 [(0, .ref b), (1, .ref xa), (2, .ref ma), (3, .ref oa), (4, .int (nI (8 * n)))] → pw_S K f2 H2 lc2 → J f2 → bas K xa ma oa f2 → W p l e R s m args below meth c H2 lc2 (cells + 1000) (slots + 12000) Q (F0 m 1215 ls [])) (H0 : Heap) (lc0 : List Loc) (ls : Array Slot) (hl : lv_has ls 8 [(0, .ref b), (1, .ref xa), (2, .ref ma), (3, .ref oa), (4, .int (nI (8 * n)))]) (hS : pw_S K f H0 lc0) : W p l e R s m args below meth c H0 lc0 cells slots Q (F0 m 924 ls []) := by
  have hx := X.1
  have hb := X.2.1
  obtain ⟨kc, Mid, ⟨d1, mc1, ms1, hd1, hW⟩, hMM⟩ := hst
  refine lv_aload_n hx hb d_La_law_924 rfl (lv_at hl 1 rfl) ?_
  refine lv_aload_n hx hb d_La_law_925 rfl (lv_at hl 0 rfl) ?_
  refine lv_iload hx hb d_La_law_926 (lv_at hl 4 rfl) ?_
  refine lv_iconst (v := 1) hx hb d_La_law_928 (by decide) ?_
  refine lv_iadd hx hb d_La_law_929 ?_
  refine lv_topi (fun yy ey => ?_)
  obtain rfl : yy = nI (8 * n + 1) := by rw [ey]; exact nI_add (8 * n) 1
  clear ey
  refine pw_sld X hKs hS hXs hbl (vp_in_nI (by omega) (by omega)) d_La_law_930 ?_
  refine lv_topi (fun yy ey => ?_)
  obtain rfl : yy = xs (8 * n + 1) := by rw [ey]; rw [nI_clamp (by omega)]
  clear ey
  refine lv_aload_n hx hb d_La_law_931 rfl (lv_at hl 3 rfl) ?_
  obtain ⟨PW, hW1, hPW⟩ := hW (Array.size H0)
  refine pw_callSW X hS (As := [.ref xa, .int (xs (8 * n + 1)), .ref oa]) (rest := []) hW1 rfl w_cd_La_apart w_ini_La w_ml_La_111 w_st_La_apart hd_La_apart rfl hl.1 (Nat.le_of_ble_eq_true rfl) d_La_law_932 ⟨by show d1 + 1 ≤ R.frames; omega, by show 8 + (4 + 11) + 64 * d1 ≤ R.locals; omega⟩ ⟨by show cells + mc1 ≤ R.cells; omega, by show slots + ms1 ≤ R.slots; omega⟩ (fun v1 f1 H1 lc1 hp1 hS1 => ?_)
  obtain ⟨rfl, hmid⟩ := hPW _ _ _ hp1
  clear hW hPW hp1 hS
  obtain ⟨⟨⟨fs1, hxa1⟩, ⟨th1, wr1, L1, Z1, S1, G1, P1, Ex1, O1, T1, V1, hm1⟩, hoa1⟩, bb, ⟨d2, mc2, ms2, hd2, hM⟩⟩ := hMM f1 hmid
  refine lv_istore (lv' := [(5, .int kc), (0, .ref b), (1, .ref xa), (2, .ref ma), (3, .ref oa), (4, .int (nI (8 * n)))]) hx hb d_La_law_935 hl (by decide) rfl (fun ls hl => ?_)
  refine lv_aload_n hx hb d_La_law_937 rfl (lv_at hl 3 rfl) ?_
  refine lv_aload_n hx hb d_La_law_938 rfl (lv_at hl 1 rfl) ?_
  refine lv_iload hx hb d_La_law_939 (lv_at hl 5 rfl) ?_
  refine lv_iconst (v := 1) hx hb d_La_law_941 (by decide) ?_
  refine lv_iadd hx hb d_La_law_942 ?_
  refine lv_topi (fun yy ey => ?_)
  obtain rfl : yy = nI (8 * n + 1) := by rw [ey]; exact nI_add (8 * n) 1
  clear ey
  refine pw_sld X hKs hS1 hXs hbl (vp_in_nI (by omega) (by omega)) d_La_law_943 ?_
  refine lv_topi (fun yy ey => ?_)
  obtain rfl : yy = xs (8 * n + 1) := by rw [ey]; rw [nI_clamp (by omega)]
  clear ey
  obtain ⟨PM, hM1, hPM⟩ := hM (Array.size H1)
  refine pw_callV X hS1 (As := [.int (xs (8 * n + 1))]) (rest := []) hM1 rfl w_cd_Mo_apart w_ini_Mo w_ml_La_113 w_im_Mo_apart w_se_Mo_apart hm1.1 rfl hd_Mo_apart rfl hl.1 (Nat.le_of_ble_eq_true rfl) d_La_law_944 ⟨by show d2 + 1 ≤ R.frames; omega, by show 8 + (5 + 11) + 64 * d2 ≤ R.locals; omega⟩ ⟨by show cells + mc1 + mc2 ≤ R.cells; omega, by show slots + ms1 + ms2 ≤ R.slots; omega⟩ (fun v2 f2 H2 lc2 hp2 hS2 => ?_)
  obtain ⟨rfl, hae⟩ := hPM _ _ _ hp2
  clear hM hPM hp2 hS1
  obtain ⟨⟨fs2, hxa2⟩, ⟨wr2, L2, Z2, S2, G2, P2, Ex2, O2, T2, V2, hm2⟩, ⟨go, hoa2, hgo⟩, hJ⟩ := hae
  refine lv_istore (lv' := [(6, .int bb), (5, .int kc), (0, .ref b), (1, .ref xa), (2, .ref ma), (3, .ref oa), (4, .int (nI (8 * n)))]) hx hb d_La_law_947 hl (by decide) rfl (fun ls hl => ?_)
  refine lv_aload_n hx hb d_La_law_949 rfl (lv_at hl 4 rfl) ?_
  refine pw_callVR X hS2 (As := []) (rest := []) (r_Mo_thrown l K f2 ma (Array.size H2) kc wr2 L2 Z2 S2 G2 P2 Ex2 O2 T2 V2 hm2) rfl w_cd_Mo_thrown w_ini_Mo w_ml_La_76 w_im_Mo_thrown w_se_Mo_thrown hm2.1 rfl hd_Mo_thrown rfl hl.1 (Nat.le_of_ble_eq_true rfl) d_La_law_950 ⟨by show 1 + 1 ≤ R.frames; omega, by show 8 + (1 + 11) + 64 * 1 ≤ R.locals; omega⟩ ⟨by show cells + mc1 + mc2 ≤ R.cells; omega, by show slots + ms1 + ms2 ≤ R.slots; omega⟩ ?_
  refine lv_iload hx hb d_La_law_953 (lv_at hl 1 rfl) ?_
  refine lv_icmp_eq (tgt := 960) hx hb d_La_law_955 (by decide) (fun _ => ?_) (fun cw => absurd cw (not_not_intro rfl))
  refine lv_iload hx hb d_La_law_960 (lv_at hl 1 rfl) ?_
  refine lv_if_ne (tgt := 977) hx hb d_La_law_962 (by decide) (fun ck => ?_) (fun ck => ?_)
  · refine lv_goto (tgt := 1215) hx hb d_La_law_977 (by decide) ?_
    refine W.widen (k := cells + 1000) (n := slots + 12000) (by show cells + mc1 + mc2 ≤ _; omega) (by show slots + ms1 + ms2 ≤ _; omega) ?_
    exact kk f2 H2 lc2 ls (lv_sub hl [2, 3, 4, 5, 6] rfl) hS2 hJ ⟨⟨fs2, hxa2⟩, ⟨kc, wr2, L2, Z2, S2, G2, P2, Ex2, O2, T2, V2, hm2⟩, ⟨go, hoa2⟩⟩
  · refine lv_aload_n hx hb d_La_law_965 rfl (lv_at hl 5 rfl) ?_
    refine lv_iconst (v := 0) hx hb d_La_law_966 (by decide) ?_
    refine pw_lld X hS2 hoa2 (vp_in_nI (n := 0) (by decide) (by decide)) d_La_law_967 ?_
    refine lv_topl (fun yy ey => ?_)
    obtain rfl : yy = bb.toInt64 := by rw [ey]; exact hgo ck
    clear ey
    refine lv_iload hx hb d_La_law_968 (lv_at hl 0 rfl) ?_
    refine lv_i2l hx hb d_La_law_970 rfl ?_
    refine W.lcmp hx hb d_La_law_971 ?_
    refine lv_if_eq (tgt := 977) hx hb d_La_law_972 (by decide) (fun _ => ?_) (fun cw => absurd cw (not_not_intro ((lg_cmp_eq _ _).mpr rfl)))
    refine lv_goto (tgt := 1215) hx hb d_La_law_977 (by decide) ?_
    refine W.widen (k := cells + 1000) (n := slots + 12000) (by show cells + mc1 + mc2 ≤ _; omega) (by show slots + ms1 + ms2 ≤ _; omega) ?_
    exact kk f2 H2 lc2 ls (lv_sub hl [2, 3, 4, 5, 6] rfl) hS2 hJ ⟨⟨fs2, hxa2⟩, ⟨kc, wr2, L2, Z2, S2, G2, P2, Ex2, O2, T2, V2, hm2⟩, ⟨go, hoa2⟩⟩
set_option maxHeartbeats 4000000 in
set_option maxRecDepth 100000 in
theorem la_order {p : Program} {e : Env} {R : Room} {s : State} {m : MethodId} {args : Array Value} {below : List Frame} {meth : Method} {c : Code} {cells slots : Nat} {Q : State → Prop} (l : Launch) (K : pw_K) (xa ma oa : Nat) {b Ln : Nat} {xs : Nat → Int32} (X : pw_X p s m args meth c K R_La code 8) (hKs : pZ K = s) (hXs : va_X b Ln xs s s.heap) (hbl : b < s.heap.size) (hL : Ln < 2 ^ 31) (hR : 1100 ≤ R.frames ∧ 70000 ≤ R.locals ∧ cells + 1000 ≤ R.cells ∧ slots + 12000 ≤ R.slots) (n : Nat) (hn : 8 * n + 8 ≤ Ln) (f : pw_F) (J : pw_F → Prop) (hst : st_order l K xa ma oa (xs (8 * n + 1)) (xs (8 * n + 2)) f J) (kk : ∀ (f2 : pw_F) (H2 : Heap) (lc2 : List Loc) (ls : Array Slot), lv_has ls 8 [(0, .ref b), (1, .ref xa), (2, .ref ma), (3, .ref oa), (4, .int (nI (8 * n)))] → pw_S K f2 H2 lc2 → J f2 → bas K xa ma oa f2 → W p l e R s m args below meth c H2 lc2 (cells + 1000) (slots + 12000) Q (F0 m 1215 ls [])) (H0 : Heap) (lc0 : List Loc) (ls : Array Slot) (hl : lv_has ls 8 [(0, .ref b), (1, .ref xa), (2, .ref ma), (3, .ref oa), (4, .int (nI (8 * n)))]) (hS : pw_S K f H0 lc0) : W p l e R s m args below meth c H0 lc0 cells slots Q (F0 m 980 ls []) := by
  have hx := X.1
  have hb := X.2.1
  obtain ⟨kc, Mid, ⟨d1, mc1, ms1, hd1, hW⟩, hMM⟩ := hst
  refine lv_aload_n hx hb d_La_law_980 rfl (lv_at hl 1 rfl) ?_
  refine lv_aload_n hx hb d_La_law_981 rfl (lv_at hl 0 rfl) ?_
  refine lv_iload hx hb d_La_law_982 (lv_at hl 4 rfl) ?_
  refine lv_iconst (v := 1) hx hb d_La_law_984 (by decide) ?_
  refine lv_iadd hx hb d_La_law_985 ?_
  refine lv_topi (fun yy ey => ?_)
  obtain rfl : yy = nI (8 * n + 1) := by rw [ey]; exact nI_add (8 * n) 1
  clear ey
  refine pw_sld X hKs hS hXs hbl (vp_in_nI (by omega) (by omega)) d_La_law_986 ?_
  refine lv_topi (fun yy ey => ?_)
  obtain rfl : yy = xs (8 * n + 1) := by rw [ey]; rw [nI_clamp (by omega)]
  clear ey
  refine lv_aload_n hx hb d_La_law_987 rfl (lv_at hl 0 rfl) ?_
  refine lv_iload hx hb d_La_law_988 (lv_at hl 4 rfl) ?_
  refine lv_iconst (v := 2) hx hb d_La_law_990 (by decide) ?_
  refine lv_iadd hx hb d_La_law_991 ?_
  refine lv_topi (fun yy ey => ?_)
  obtain rfl : yy = nI (8 * n + 2) := by rw [ey]; exact nI_add (8 * n) 2
  clear ey
  refine pw_sld X hKs hS hXs hbl (vp_in_nI (by omega) (by omega)) d_La_law_992 ?_
  refine lv_topi (fun yy ey => ?_)
  obtain rfl : yy = xs (8 * n + 2) := by rw [ey]; rw [nI_clamp (by omega)]
  clear ey
  refine lv_aload_n hx hb d_La_law_993 rfl (lv_at hl 3 rfl) ?_
  obtain ⟨PW, hW1, hPW⟩ := hW (Array.size H0)
  refine pw_callSW X hS (As := [.ref xa, .int (xs (8 * n + 1)), .int (xs (8 * n + 2)), .ref oa]) (rest := []) hW1 rfl w_cd_La_order w_ini_La w_ml_La_114 w_st_La_order hd_La_order rfl hl.1 (Nat.le_of_ble_eq_true rfl) d_La_law_994 ⟨by show d1 + 1 ≤ R.frames; omega, by show 8 + (5 + 11) + 64 * d1 ≤ R.locals; omega⟩ ⟨by show cells + mc1 ≤ R.cells; omega, by show slots + ms1 ≤ R.slots; omega⟩ (fun v1 f1 H1 lc1 hp1 hS1 => ?_)
  obtain ⟨rfl, hmid⟩ := hPW _ _ _ hp1
  clear hW hPW hp1 hS
  obtain ⟨⟨⟨fs1, hxa1⟩, ⟨th1, wr1, L1, Z1, S1, G1, P1, Ex1, O1, T1, V1, hm1⟩, hoa1⟩, bb, ⟨d2, mc2, ms2, hd2, hM⟩⟩ := hMM f1 hmid
  refine lv_istore (lv' := [(5, .int kc), (0, .ref b), (1, .ref xa), (2, .ref ma), (3, .ref oa), (4, .int (nI (8 * n)))]) hx hb d_La_law_997 hl (by decide) rfl (fun ls hl => ?_)
  refine lv_aload_n hx hb d_La_law_999 rfl (lv_at hl 3 rfl) ?_
  refine lv_aload_n hx hb d_La_law_1000 rfl (lv_at hl 1 rfl) ?_
  refine lv_iload hx hb d_La_law_1001 (lv_at hl 5 rfl) ?_
  refine lv_iconst (v := 1) hx hb d_La_law_1003 (by decide) ?_
  refine lv_iadd hx hb d_La_law_1004 ?_
  refine lv_topi (fun yy ey => ?_)
  obtain rfl : yy = nI (8 * n + 1) := by rw [ey]; exact nI_add (8 * n) 1
  clear ey
  refine pw_sld X hKs hS1 hXs hbl (vp_in_nI (by omega) (by omega)) d_La_law_1005 ?_
  refine lv_topi (fun yy ey => ?_)
  obtain rfl : yy = xs (8 * n + 1) := by rw [ey]; rw [nI_clamp (by omega)]
  clear ey
  refine lv_aload_n hx hb d_La_law_1006 rfl (lv_at hl 1 rfl) ?_
  refine lv_iload hx hb d_La_law_1007 (lv_at hl 5 rfl) ?_
  refine lv_iconst (v := 2) hx hb d_La_law_1009 (by decide) ?_
  refine lv_iadd hx hb d_La_law_1010 ?_
  refine lv_topi (fun yy ey => ?_)
  obtain rfl : yy = nI (8 * n + 2) := by rw [ey]; exact nI_add (8 * n) 2
  clear ey
  refine pw_sld X hKs hS1 hXs hbl (vp_in_nI (by omega) (by omega)) d_La_law_1011 ?_
  refine lv_topi (fun yy ey => ?_)
  obtain rfl : yy = xs (8 * n + 2) := by rw [ey]; rw [nI_clamp (by omega)]
  clear ey
  obtain ⟨PM, hM1, hPM⟩ := hM (Array.size H1)
  refine pw_callV X hS1 (As := [.int (xs (8 * n + 1)), .int (xs (8 * n + 2))]) (rest := []) hM1 rfl w_cd_Mo_order w_ini_Mo w_ml_La_116 w_im_Mo_order w_se_Mo_order hm1.1 rfl hd_Mo_order rfl hl.1 (Nat.le_of_ble_eq_true rfl) d_La_law_1012 ⟨by show d2 + 1 ≤ R.frames; omega, by show 8 + (6 + 11) + 64 * d2 ≤ R.locals; omega⟩ ⟨by show cells + mc1 + mc2 ≤ R.cells; omega, by show slots + ms1 + ms2 ≤ R.slots; omega⟩ (fun v2 f2 H2 lc2 hp2 hS2 => ?_)
  obtain ⟨rfl, hae⟩ := hPM _ _ _ hp2
  clear hM hPM hp2 hS1
  obtain ⟨⟨fs2, hxa2⟩, ⟨wr2, L2, Z2, S2, G2, P2, Ex2, O2, T2, V2, hm2⟩, ⟨go, hoa2, hgo⟩, hJ⟩ := hae
  refine lv_istore (lv' := [(6, .int bb), (5, .int kc), (0, .ref b), (1, .ref xa), (2, .ref ma), (3, .ref oa), (4, .int (nI (8 * n)))]) hx hb d_La_law_1015 hl (by decide) rfl (fun ls hl => ?_)
  refine lv_aload_n hx hb d_La_law_1017 rfl (lv_at hl 4 rfl) ?_
  refine pw_callVR X hS2 (As := []) (rest := []) (r_Mo_thrown l K f2 ma (Array.size H2) kc wr2 L2 Z2 S2 G2 P2 Ex2 O2 T2 V2 hm2) rfl w_cd_Mo_thrown w_ini_Mo w_ml_La_76 w_im_Mo_thrown w_se_Mo_thrown hm2.1 rfl hd_Mo_thrown rfl hl.1 (Nat.le_of_ble_eq_true rfl) d_La_law_1018 ⟨by show 1 + 1 ≤ R.frames; omega, by show 8 + (1 + 11) + 64 * 1 ≤ R.locals; omega⟩ ⟨by show cells + mc1 + mc2 ≤ R.cells; omega, by show slots + ms1 + ms2 ≤ R.slots; omega⟩ ?_
  refine lv_iload hx hb d_La_law_1021 (lv_at hl 1 rfl) ?_
  refine lv_icmp_eq (tgt := 1028) hx hb d_La_law_1023 (by decide) (fun _ => ?_) (fun cw => absurd cw (not_not_intro rfl))
  refine lv_iload hx hb d_La_law_1028 (lv_at hl 1 rfl) ?_
  refine lv_if_ne (tgt := 1045) hx hb d_La_law_1030 (by decide) (fun ck => ?_) (fun ck => ?_)
  · refine lv_goto (tgt := 1215) hx hb d_La_law_1045 (by decide) ?_
    refine W.widen (k := cells + 1000) (n := slots + 12000) (by show cells + mc1 + mc2 ≤ _; omega) (by show slots + ms1 + ms2 ≤ _; omega) ?_
    exact kk f2 H2 lc2 ls (lv_sub hl [2, 3, 4, 5, 6] rfl) hS2 hJ ⟨⟨fs2, hxa2⟩, ⟨kc, wr2, L2, Z2, S2, G2, P2, Ex2, O2, T2, V2, hm2⟩, ⟨go, hoa2⟩⟩
  · refine lv_aload_n hx hb d_La_law_1033 rfl (lv_at hl 5 rfl) ?_
    refine lv_iconst (v := 0) hx hb d_La_law_1034 (by decide) ?_
    refine pw_lld X hS2 hoa2 (vp_in_nI (n := 0) (by decide) (by decide)) d_La_law_1035 ?_
    refine lv_topl (fun yy ey => ?_)
    obtain rfl : yy = bb.toInt64 := by rw [ey]; exact hgo ck
    clear ey
    refine lv_iload hx hb d_La_law_1036 (lv_at hl 0 rfl) ?_
    refine lv_i2l hx hb d_La_law_1038 rfl ?_
    refine W.lcmp hx hb d_La_law_1039 ?_
    refine lv_if_eq (tgt := 1045) hx hb d_La_law_1040 (by decide) (fun _ => ?_) (fun cw => absurd cw (not_not_intro ((lg_cmp_eq _ _).mpr rfl)))
    refine lv_goto (tgt := 1215) hx hb d_La_law_1045 (by decide) ?_
    refine W.widen (k := cells + 1000) (n := slots + 12000) (by show cells + mc1 + mc2 ≤ _; omega) (by show slots + ms1 + ms2 ≤ _; omega) ?_
    exact kk f2 H2 lc2 ls (lv_sub hl [2, 3, 4, 5, 6] rfl) hS2 hJ ⟨⟨fs2, hxa2⟩, ⟨kc, wr2, L2, Z2, S2, G2, P2, Ex2, O2, T2, V2, hm2⟩, ⟨go, hoa2⟩⟩
set_option maxHeartbeats 4000000 in
set_option maxRecDepth 100000 in
theorem la_signAt {p : Program} {e : Env} {R : Room} {s : State} {m : MethodId} {args : Array Value} {below : List Frame} {meth : Method} {c : Code} {cells slots : Nat} {Q : State → Prop} (l : Launch) (K : pw_K) (xa ma oa : Nat) {b Ln : Nat} {xs : Nat → Int32} (X : pw_X p s m args meth c K R_La code 8) (hKs : pZ K = s) (hXs : va_X b Ln xs s s.heap) (hbl : b < s.heap.size) (hL : Ln < 2 ^ 31) (hR : 1100 ≤ R.frames ∧ 70000 ≤ R.locals ∧ cells + 1000 ≤ R.cells ∧ slots + 12000 ≤ R.slots) (n : Nat) (hn : 8 * n + 8 ≤ Ln) (f : pw_F) (J : pw_F → Prop) (hst : st_signAt l K xa ma oa (xs (8 * n + 1)) (xs (8 * n + 2)) f J) (kk : ∀ (f2 : pw_F) (H2 : Heap) (lc2 : List Loc) (ls : Array Slot), lv_has ls 8 [(0, .ref b), (1, .ref xa), (2, .ref ma), (3, .ref oa), (4, .int (nI (8 * n)))] → pw_S K f2 H2 lc2 → J f2 → bas K xa ma oa f2 → W p l e R s m args below meth c H2 lc2 (cells + 1000) (slots + 12000) Q (F0 m 1215 ls [])) (H0 : Heap) (lc0 : List Loc) (ls : Array Slot) (hl : lv_has ls 8 [(0, .ref b), (1, .ref xa), (2, .ref ma), (3, .ref oa), (4, .int (nI (8 * n)))]) (hS : pw_S K f H0 lc0) : W p l e R s m args below meth c H0 lc0 cells slots Q (F0 m 1048 ls []) := by
  have hx := X.1
  have hb := X.2.1
  obtain ⟨kc, Mid, ⟨d1, mc1, ms1, hd1, hW⟩, hMM⟩ := hst
  refine lv_aload_n hx hb d_La_law_1048 rfl (lv_at hl 1 rfl) ?_
  refine lv_aload_n hx hb d_La_law_1049 rfl (lv_at hl 0 rfl) ?_
  refine lv_iload hx hb d_La_law_1050 (lv_at hl 4 rfl) ?_
  refine lv_iconst (v := 1) hx hb d_La_law_1052 (by decide) ?_
  refine lv_iadd hx hb d_La_law_1053 ?_
  refine lv_topi (fun yy ey => ?_)
  obtain rfl : yy = nI (8 * n + 1) := by rw [ey]; exact nI_add (8 * n) 1
  clear ey
  refine pw_sld X hKs hS hXs hbl (vp_in_nI (by omega) (by omega)) d_La_law_1054 ?_
  refine lv_topi (fun yy ey => ?_)
  obtain rfl : yy = xs (8 * n + 1) := by rw [ey]; rw [nI_clamp (by omega)]
  clear ey
  refine lv_aload_n hx hb d_La_law_1055 rfl (lv_at hl 0 rfl) ?_
  refine lv_iload hx hb d_La_law_1056 (lv_at hl 4 rfl) ?_
  refine lv_iconst (v := 2) hx hb d_La_law_1058 (by decide) ?_
  refine lv_iadd hx hb d_La_law_1059 ?_
  refine lv_topi (fun yy ey => ?_)
  obtain rfl : yy = nI (8 * n + 2) := by rw [ey]; exact nI_add (8 * n) 2
  clear ey
  refine pw_sld X hKs hS hXs hbl (vp_in_nI (by omega) (by omega)) d_La_law_1060 ?_
  refine lv_topi (fun yy ey => ?_)
  obtain rfl : yy = xs (8 * n + 2) := by rw [ey]; rw [nI_clamp (by omega)]
  clear ey
  refine lv_aload_n hx hb d_La_law_1061 rfl (lv_at hl 3 rfl) ?_
  obtain ⟨PW, hW1, hPW⟩ := hW (Array.size H0)
  refine pw_callSW X hS (As := [.ref xa, .int (xs (8 * n + 1)), .int (xs (8 * n + 2)), .ref oa]) (rest := []) hW1 rfl w_cd_La_signAt w_ini_La w_ml_La_117 w_st_La_signAt hd_La_signAt rfl hl.1 (Nat.le_of_ble_eq_true rfl) d_La_law_1062 ⟨by show d1 + 1 ≤ R.frames; omega, by show 8 + (5 + 11) + 64 * d1 ≤ R.locals; omega⟩ ⟨by show cells + mc1 ≤ R.cells; omega, by show slots + ms1 ≤ R.slots; omega⟩ (fun v1 f1 H1 lc1 hp1 hS1 => ?_)
  obtain ⟨rfl, hmid⟩ := hPW _ _ _ hp1
  clear hW hPW hp1 hS
  obtain ⟨⟨⟨fs1, hxa1⟩, ⟨th1, wr1, L1, Z1, S1, G1, P1, Ex1, O1, T1, V1, hm1⟩, hoa1⟩, bb, ⟨d2, mc2, ms2, hd2, hM⟩⟩ := hMM f1 hmid
  refine lv_istore (lv' := [(5, .int kc), (0, .ref b), (1, .ref xa), (2, .ref ma), (3, .ref oa), (4, .int (nI (8 * n)))]) hx hb d_La_law_1065 hl (by decide) rfl (fun ls hl => ?_)
  refine lv_aload_n hx hb d_La_law_1067 rfl (lv_at hl 3 rfl) ?_
  refine lv_aload_n hx hb d_La_law_1068 rfl (lv_at hl 1 rfl) ?_
  refine lv_iload hx hb d_La_law_1069 (lv_at hl 5 rfl) ?_
  refine lv_iconst (v := 1) hx hb d_La_law_1071 (by decide) ?_
  refine lv_iadd hx hb d_La_law_1072 ?_
  refine lv_topi (fun yy ey => ?_)
  obtain rfl : yy = nI (8 * n + 1) := by rw [ey]; exact nI_add (8 * n) 1
  clear ey
  refine pw_sld X hKs hS1 hXs hbl (vp_in_nI (by omega) (by omega)) d_La_law_1073 ?_
  refine lv_topi (fun yy ey => ?_)
  obtain rfl : yy = xs (8 * n + 1) := by rw [ey]; rw [nI_clamp (by omega)]
  clear ey
  refine lv_aload_n hx hb d_La_law_1074 rfl (lv_at hl 1 rfl) ?_
  refine lv_iload hx hb d_La_law_1075 (lv_at hl 5 rfl) ?_
  refine lv_iconst (v := 2) hx hb d_La_law_1077 (by decide) ?_
  refine lv_iadd hx hb d_La_law_1078 ?_
  refine lv_topi (fun yy ey => ?_)
  obtain rfl : yy = nI (8 * n + 2) := by rw [ey]; exact nI_add (8 * n) 2
  clear ey
  refine pw_sld X hKs hS1 hXs hbl (vp_in_nI (by omega) (by omega)) d_La_law_1079 ?_
  refine lv_topi (fun yy ey => ?_)
  obtain rfl : yy = xs (8 * n + 2) := by rw [ey]; rw [nI_clamp (by omega)]
  clear ey
  obtain ⟨PM, hM1, hPM⟩ := hM (Array.size H1)
  refine pw_callV X hS1 (As := [.int (xs (8 * n + 1)), .int (xs (8 * n + 2))]) (rest := []) hM1 rfl w_cd_Mo_signAt w_ini_Mo w_ml_La_119 w_im_Mo_signAt w_se_Mo_signAt hm1.1 rfl hd_Mo_signAt rfl hl.1 (Nat.le_of_ble_eq_true rfl) d_La_law_1080 ⟨by show d2 + 1 ≤ R.frames; omega, by show 8 + (7 + 11) + 64 * d2 ≤ R.locals; omega⟩ ⟨by show cells + mc1 + mc2 ≤ R.cells; omega, by show slots + ms1 + ms2 ≤ R.slots; omega⟩ (fun v2 f2 H2 lc2 hp2 hS2 => ?_)
  obtain ⟨rfl, hae⟩ := hPM _ _ _ hp2
  clear hM hPM hp2 hS1
  obtain ⟨⟨fs2, hxa2⟩, ⟨wr2, L2, Z2, S2, G2, P2, Ex2, O2, T2, V2, hm2⟩, ⟨go, hoa2, hgo⟩, hJ⟩ := hae
  refine lv_istore (lv' := [(6, .int bb), (5, .int kc), (0, .ref b), (1, .ref xa), (2, .ref ma), (3, .ref oa), (4, .int (nI (8 * n)))]) hx hb d_La_law_1083 hl (by decide) rfl (fun ls hl => ?_)
  refine lv_aload_n hx hb d_La_law_1085 rfl (lv_at hl 4 rfl) ?_
  refine pw_callVR X hS2 (As := []) (rest := []) (r_Mo_thrown l K f2 ma (Array.size H2) kc wr2 L2 Z2 S2 G2 P2 Ex2 O2 T2 V2 hm2) rfl w_cd_Mo_thrown w_ini_Mo w_ml_La_76 w_im_Mo_thrown w_se_Mo_thrown hm2.1 rfl hd_Mo_thrown rfl hl.1 (Nat.le_of_ble_eq_true rfl) d_La_law_1086 ⟨by show 1 + 1 ≤ R.frames; omega, by show 8 + (1 + 11) + 64 * 1 ≤ R.locals; omega⟩ ⟨by show cells + mc1 + mc2 ≤ R.cells; omega, by show slots + ms1 + ms2 ≤ R.slots; omega⟩ ?_
  refine lv_iload hx hb d_La_law_1089 (lv_at hl 1 rfl) ?_
  refine lv_icmp_eq (tgt := 1096) hx hb d_La_law_1091 (by decide) (fun _ => ?_) (fun cw => absurd cw (not_not_intro rfl))
  refine lv_iload hx hb d_La_law_1096 (lv_at hl 1 rfl) ?_
  refine lv_if_ne (tgt := 1113) hx hb d_La_law_1098 (by decide) (fun ck => ?_) (fun ck => ?_)
  · refine lv_goto (tgt := 1215) hx hb d_La_law_1113 (by decide) ?_
    refine W.widen (k := cells + 1000) (n := slots + 12000) (by show cells + mc1 + mc2 ≤ _; omega) (by show slots + ms1 + ms2 ≤ _; omega) ?_
    exact kk f2 H2 lc2 ls (lv_sub hl [2, 3, 4, 5, 6] rfl) hS2 hJ ⟨⟨fs2, hxa2⟩, ⟨kc, wr2, L2, Z2, S2, G2, P2, Ex2, O2, T2, V2, hm2⟩, ⟨go, hoa2⟩⟩
  · refine lv_aload_n hx hb d_La_law_1101 rfl (lv_at hl 5 rfl) ?_
    refine lv_iconst (v := 0) hx hb d_La_law_1102 (by decide) ?_
    refine pw_lld X hS2 hoa2 (vp_in_nI (n := 0) (by decide) (by decide)) d_La_law_1103 ?_
    refine lv_topl (fun yy ey => ?_)
    obtain rfl : yy = bb.toInt64 := by rw [ey]; exact hgo ck
    clear ey
    refine lv_iload hx hb d_La_law_1104 (lv_at hl 0 rfl) ?_
    refine lv_i2l hx hb d_La_law_1106 rfl ?_
    refine W.lcmp hx hb d_La_law_1107 ?_
    refine lv_if_eq (tgt := 1113) hx hb d_La_law_1108 (by decide) (fun _ => ?_) (fun cw => absurd cw (not_not_intro ((lg_cmp_eq _ _).mpr rfl)))
    refine lv_goto (tgt := 1215) hx hb d_La_law_1113 (by decide) ?_
    refine W.widen (k := cells + 1000) (n := slots + 12000) (by show cells + mc1 + mc2 ≤ _; omega) (by show slots + ms1 + ms2 ≤ _; omega) ?_
    exact kk f2 H2 lc2 ls (lv_sub hl [2, 3, 4, 5, 6] rfl) hS2 hJ ⟨⟨fs2, hxa2⟩, ⟨kc, wr2, L2, Z2, S2, G2, P2, Ex2, O2, T2, V2, hm2⟩, ⟨go, hoa2⟩⟩
set_option maxHeartbeats 4000000 in
set_option maxRecDepth 100000 in
theorem la_common {p : Program} {e : Env} {R : Room} {s : State} {m : MethodId} {args : Array Value} {below : List Frame} {meth : Method} {c : Code} {cells slots : Nat} {Q : State → Prop} (l : Launch) (K : pw_K) (xa ma oa : Nat) {b Ln : Nat} {xs : Nat → Int32} (X : pw_X p s m args meth c K R_La code 8) (hKs : pZ K = s) (hXs : va_X b Ln xs s s.heap) (hbl : b < s.heap.size) (hL : Ln < 2 ^ 31) (hR : 1100 ≤ R.frames ∧ 70000 ≤ R.locals ∧ cells + 1000 ≤ R.cells ∧ slots + 12000 ≤ R.slots) (n : Nat) (hn : 8 * n + 8 ≤ Ln) (f : pw_F) (J : pw_F → Prop) (hst : st_common l K xa ma oa  f J) (kk : ∀ (f2 : pw_F) (H2 : Heap) (lc2 : List Loc) (ls : Array Slot), lv_has ls 8 [(0, .ref b), (1, .ref xa), (2, .ref ma), (3, .ref oa), (4, .int (nI (8 * n)))] → pw_S K f2 H2 lc2 → J f2 → bas K xa ma oa f2 → W p l e R s m args below meth c H2 lc2 (cells + 1000) (slots + 12000) Q (F0 m 1215 ls [])) (H0 : Heap) (lc0 : List Loc) (ls : Array Slot) (hl : lv_has ls 8 [(0, .ref b), (1, .ref xa), (2, .ref ma), (3, .ref oa), (4, .int (nI (8 * n)))]) (hS : pw_S K f H0 lc0) : W p l e R s m args below meth c H0 lc0 cells slots Q (F0 m 1116 ls []) := by
  have hx := X.1
  have hb := X.2.1
  obtain ⟨kc, Mid, ⟨d1, mc1, ms1, hd1, hW⟩, hMM⟩ := hst
  refine lv_aload_n hx hb d_La_law_1116 rfl (lv_at hl 1 rfl) ?_
  refine lv_aload_n hx hb d_La_law_1117 rfl (lv_at hl 3 rfl) ?_
  obtain ⟨PW, hW1, hPW⟩ := hW (Array.size H0)
  refine pw_callSW X hS (As := [.ref xa, .ref oa]) (rest := []) hW1 rfl w_cd_La_common w_ini_La w_ml_La_120 w_st_La_common hd_La_common rfl hl.1 (Nat.le_of_ble_eq_true rfl) d_La_law_1118 ⟨by show d1 + 1 ≤ R.frames; omega, by show 8 + (3 + 11) + 64 * d1 ≤ R.locals; omega⟩ ⟨by show cells + mc1 ≤ R.cells; omega, by show slots + ms1 ≤ R.slots; omega⟩ (fun v1 f1 H1 lc1 hp1 hS1 => ?_)
  obtain ⟨rfl, hmid⟩ := hPW _ _ _ hp1
  clear hW hPW hp1 hS
  obtain ⟨⟨⟨fs1, hxa1⟩, ⟨th1, wr1, L1, Z1, S1, G1, P1, Ex1, O1, T1, V1, hm1⟩, hoa1⟩, bb, ⟨d2, mc2, ms2, hd2, hM⟩⟩ := hMM f1 hmid
  refine lv_istore (lv' := [(5, .int kc), (0, .ref b), (1, .ref xa), (2, .ref ma), (3, .ref oa), (4, .int (nI (8 * n)))]) hx hb d_La_law_1121 hl (by decide) rfl (fun ls hl => ?_)
  refine lv_aload_n hx hb d_La_law_1123 rfl (lv_at hl 3 rfl) ?_
  obtain ⟨PM, hM1, hPM⟩ := hM (Array.size H1)
  refine pw_callV X hS1 (As := []) (rest := []) hM1 rfl w_cd_Mo_common w_ini_Mo w_ml_La_123 w_im_Mo_common w_se_Mo_common hm1.1 rfl hd_Mo_common rfl hl.1 (Nat.le_of_ble_eq_true rfl) d_La_law_1124 ⟨by show d2 + 1 ≤ R.frames; omega, by show 8 + (3 + 11) + 64 * d2 ≤ R.locals; omega⟩ ⟨by show cells + mc1 + mc2 ≤ R.cells; omega, by show slots + ms1 + ms2 ≤ R.slots; omega⟩ (fun v2 f2 H2 lc2 hp2 hS2 => ?_)
  obtain ⟨rfl, hae⟩ := hPM _ _ _ hp2
  clear hM hPM hp2 hS1
  obtain ⟨⟨fs2, hxa2⟩, ⟨wr2, L2, Z2, S2, G2, P2, Ex2, O2, T2, V2, hm2⟩, ⟨go, hoa2, hgo⟩, hJ⟩ := hae
  refine lv_istore (lv' := [(6, .int bb), (5, .int kc), (0, .ref b), (1, .ref xa), (2, .ref ma), (3, .ref oa), (4, .int (nI (8 * n)))]) hx hb d_La_law_1127 hl (by decide) rfl (fun ls hl => ?_)
  refine lv_aload_n hx hb d_La_law_1129 rfl (lv_at hl 4 rfl) ?_
  refine pw_callVR X hS2 (As := []) (rest := []) (r_Mo_thrown l K f2 ma (Array.size H2) kc wr2 L2 Z2 S2 G2 P2 Ex2 O2 T2 V2 hm2) rfl w_cd_Mo_thrown w_ini_Mo w_ml_La_76 w_im_Mo_thrown w_se_Mo_thrown hm2.1 rfl hd_Mo_thrown rfl hl.1 (Nat.le_of_ble_eq_true rfl) d_La_law_1130 ⟨by show 1 + 1 ≤ R.frames; omega, by show 8 + (1 + 11) + 64 * 1 ≤ R.locals; omega⟩ ⟨by show cells + mc1 + mc2 ≤ R.cells; omega, by show slots + ms1 + ms2 ≤ R.slots; omega⟩ ?_
  refine lv_iload hx hb d_La_law_1133 (lv_at hl 1 rfl) ?_
  refine lv_icmp_eq (tgt := 1140) hx hb d_La_law_1135 (by decide) (fun _ => ?_) (fun cw => absurd cw (not_not_intro rfl))
  refine lv_iload hx hb d_La_law_1140 (lv_at hl 1 rfl) ?_
  refine lv_if_ne (tgt := 1157) hx hb d_La_law_1142 (by decide) (fun ck => ?_) (fun ck => ?_)
  · refine lv_goto (tgt := 1215) hx hb d_La_law_1157 (by decide) ?_
    refine W.widen (k := cells + 1000) (n := slots + 12000) (by show cells + mc1 + mc2 ≤ _; omega) (by show slots + ms1 + ms2 ≤ _; omega) ?_
    exact kk f2 H2 lc2 ls (lv_sub hl [2, 3, 4, 5, 6] rfl) hS2 hJ ⟨⟨fs2, hxa2⟩, ⟨kc, wr2, L2, Z2, S2, G2, P2, Ex2, O2, T2, V2, hm2⟩, ⟨go, hoa2⟩⟩
  · refine lv_aload_n hx hb d_La_law_1145 rfl (lv_at hl 5 rfl) ?_
    refine lv_iconst (v := 0) hx hb d_La_law_1146 (by decide) ?_
    refine pw_lld X hS2 hoa2 (vp_in_nI (n := 0) (by decide) (by decide)) d_La_law_1147 ?_
    refine lv_topl (fun yy ey => ?_)
    obtain rfl : yy = bb.toInt64 := by rw [ey]; exact hgo ck
    clear ey
    refine lv_iload hx hb d_La_law_1148 (lv_at hl 0 rfl) ?_
    refine lv_i2l hx hb d_La_law_1150 rfl ?_
    refine W.lcmp hx hb d_La_law_1151 ?_
    refine lv_if_eq (tgt := 1157) hx hb d_La_law_1152 (by decide) (fun _ => ?_) (fun cw => absurd cw (not_not_intro ((lg_cmp_eq _ _).mpr rfl)))
    refine lv_goto (tgt := 1215) hx hb d_La_law_1157 (by decide) ?_
    refine W.widen (k := cells + 1000) (n := slots + 12000) (by show cells + mc1 + mc2 ≤ _; omega) (by show slots + ms1 + ms2 ≤ _; omega) ?_
    exact kk f2 H2 lc2 ls (lv_sub hl [2, 3, 4, 5, 6] rfl) hS2 hJ ⟨⟨fs2, hxa2⟩, ⟨kc, wr2, L2, Z2, S2, G2, P2, Ex2, O2, T2, V2, hm2⟩, ⟨go, hoa2⟩⟩
set_option maxHeartbeats 4000000 in
set_option maxRecDepth 100000 in
theorem la_out {p : Program} {e : Env} {R : Room} {s : State} {m : MethodId} {args : Array Value} {below : List Frame} {meth : Method} {c : Code} {cells slots : Nat} {Q : State → Prop} (l : Launch) (K : pw_K) (xa ma oa : Nat) {b Ln : Nat} {xs : Nat → Int32} (X : pw_X p s m args meth c K R_La code 8) (hKs : pZ K = s) (hXs : va_X b Ln xs s s.heap) (hbl : b < s.heap.size) (hL : Ln < 2 ^ 31) (hR : 1100 ≤ R.frames ∧ 70000 ≤ R.locals ∧ cells + 1000 ≤ R.cells ∧ slots + 12000 ≤ R.slots) (n : Nat) (hn : 8 * n + 8 ≤ Ln) (f : pw_F) (J : pw_F → Prop) (hst : st_out l K xa ma oa (xs (8 * n + 1)) f J) (kk : ∀ (f2 : pw_F) (H2 : Heap) (lc2 : List Loc) (ls : Array Slot), lv_has ls 8 [(0, .ref b), (1, .ref xa), (2, .ref ma), (3, .ref oa), (4, .int (nI (8 * n)))] → pw_S K f2 H2 lc2 → J f2 → bas K xa ma oa f2 → W p l e R s m args below meth c H2 lc2 (cells + 1000) (slots + 12000) Q (F0 m 1215 ls [])) (H0 : Heap) (lc0 : List Loc) (ls : Array Slot) (hl : lv_has ls 8 [(0, .ref b), (1, .ref xa), (2, .ref ma), (3, .ref oa), (4, .int (nI (8 * n)))]) (hS : pw_S K f H0 lc0) : W p l e R s m args below meth c H0 lc0 cells slots Q (F0 m 1160 ls []) := by
  have hx := X.1
  have hb := X.2.1
  obtain ⟨kc, Mid, ⟨d1, mc1, ms1, hd1, hW⟩, hMM⟩ := hst
  refine lv_aload_n hx hb d_La_law_1160 rfl (lv_at hl 1 rfl) ?_
  refine lv_aload_n hx hb d_La_law_1161 rfl (lv_at hl 0 rfl) ?_
  refine lv_iload hx hb d_La_law_1162 (lv_at hl 4 rfl) ?_
  refine lv_iconst (v := 1) hx hb d_La_law_1164 (by decide) ?_
  refine lv_iadd hx hb d_La_law_1165 ?_
  refine lv_topi (fun yy ey => ?_)
  obtain rfl : yy = nI (8 * n + 1) := by rw [ey]; exact nI_add (8 * n) 1
  clear ey
  refine pw_sld X hKs hS hXs hbl (vp_in_nI (by omega) (by omega)) d_La_law_1166 ?_
  refine lv_topi (fun yy ey => ?_)
  obtain rfl : yy = xs (8 * n + 1) := by rw [ey]; rw [nI_clamp (by omega)]
  clear ey
  refine lv_aload_n hx hb d_La_law_1167 rfl (lv_at hl 3 rfl) ?_
  obtain ⟨PW, hW1, hPW⟩ := hW (Array.size H0)
  refine pw_callSW X hS (As := [.ref xa, .int (xs (8 * n + 1)), .ref oa]) (rest := []) hW1 rfl w_cd_La_out w_ini_La w_ml_La_124 w_st_La_out hd_La_out rfl hl.1 (Nat.le_of_ble_eq_true rfl) d_La_law_1168 ⟨by show d1 + 1 ≤ R.frames; omega, by show 8 + (4 + 11) + 64 * d1 ≤ R.locals; omega⟩ ⟨by show cells + mc1 ≤ R.cells; omega, by show slots + ms1 ≤ R.slots; omega⟩ (fun v1 f1 H1 lc1 hp1 hS1 => ?_)
  obtain ⟨rfl, hmid⟩ := hPW _ _ _ hp1
  clear hW hPW hp1 hS
  obtain ⟨⟨⟨fs1, hxa1⟩, ⟨th1, wr1, L1, Z1, S1, G1, P1, Ex1, O1, T1, V1, hm1⟩, hoa1⟩, bb, ⟨d2, mc2, ms2, hd2, hM⟩⟩ := hMM f1 hmid
  refine lv_istore (lv' := [(5, .int kc), (0, .ref b), (1, .ref xa), (2, .ref ma), (3, .ref oa), (4, .int (nI (8 * n)))]) hx hb d_La_law_1171 hl (by decide) rfl (fun ls hl => ?_)
  refine lv_aload_n hx hb d_La_law_1173 rfl (lv_at hl 3 rfl) ?_
  refine lv_aload_n hx hb d_La_law_1174 rfl (lv_at hl 1 rfl) ?_
  refine lv_iload hx hb d_La_law_1175 (lv_at hl 5 rfl) ?_
  refine lv_iconst (v := 1) hx hb d_La_law_1177 (by decide) ?_
  refine lv_iadd hx hb d_La_law_1178 ?_
  refine lv_topi (fun yy ey => ?_)
  obtain rfl : yy = nI (8 * n + 1) := by rw [ey]; exact nI_add (8 * n) 1
  clear ey
  refine pw_sld X hKs hS1 hXs hbl (vp_in_nI (by omega) (by omega)) d_La_law_1179 ?_
  refine lv_topi (fun yy ey => ?_)
  obtain rfl : yy = xs (8 * n + 1) := by rw [ey]; rw [nI_clamp (by omega)]
  clear ey
  obtain ⟨PM, hM1, hPM⟩ := hM (Array.size H1)
  refine pw_callV X hS1 (As := [.int (xs (8 * n + 1))]) (rest := []) hM1 rfl w_cd_Mo_out w_ini_Mo w_ml_La_126 w_im_Mo_out w_se_Mo_out hm1.1 rfl hd_Mo_out rfl hl.1 (Nat.le_of_ble_eq_true rfl) d_La_law_1180 ⟨by show d2 + 1 ≤ R.frames; omega, by show 8 + (5 + 11) + 64 * d2 ≤ R.locals; omega⟩ ⟨by show cells + mc1 + mc2 ≤ R.cells; omega, by show slots + ms1 + ms2 ≤ R.slots; omega⟩ (fun v2 f2 H2 lc2 hp2 hS2 => ?_)
  obtain ⟨rfl, hae⟩ := hPM _ _ _ hp2
  clear hM hPM hp2 hS1
  obtain ⟨⟨fs2, hxa2⟩, ⟨wr2, L2, Z2, S2, G2, P2, Ex2, O2, T2, V2, hm2⟩, ⟨go, hoa2, hgo⟩, hJ⟩ := hae
  refine lv_lstore (lv' := [(6, .long bb), (5, .int kc), (0, .ref b), (1, .ref xa), (2, .ref ma), (3, .ref oa), (4, .int (nI (8 * n)))]) hx hb d_La_law_1183 hl (by decide) rfl (fun ls hl => ?_)
  refine lv_aload_n hx hb d_La_law_1185 rfl (lv_at hl 4 rfl) ?_
  refine pw_callVR X hS2 (As := []) (rest := []) (r_Mo_thrown l K f2 ma (Array.size H2) kc wr2 L2 Z2 S2 G2 P2 Ex2 O2 T2 V2 hm2) rfl w_cd_Mo_thrown w_ini_Mo w_ml_La_76 w_im_Mo_thrown w_se_Mo_thrown hm2.1 rfl hd_Mo_thrown rfl hl.1 (Nat.le_of_ble_eq_true rfl) d_La_law_1186 ⟨by show 1 + 1 ≤ R.frames; omega, by show 8 + (1 + 11) + 64 * 1 ≤ R.locals; omega⟩ ⟨by show cells + mc1 + mc2 ≤ R.cells; omega, by show slots + ms1 + ms2 ≤ R.slots; omega⟩ ?_
  refine lv_iload hx hb d_La_law_1189 (lv_at hl 1 rfl) ?_
  refine lv_icmp_eq (tgt := 1196) hx hb d_La_law_1191 (by decide) (fun _ => ?_) (fun cw => absurd cw (not_not_intro rfl))
  refine lv_iload hx hb d_La_law_1196 (lv_at hl 1 rfl) ?_
  refine lv_if_ne (tgt := 1212) hx hb d_La_law_1198 (by decide) (fun ck => ?_) (fun ck => ?_)
  · refine lv_goto (tgt := 1215) hx hb d_La_law_1212 (by decide) ?_
    refine W.widen (k := cells + 1000) (n := slots + 12000) (by show cells + mc1 + mc2 ≤ _; omega) (by show slots + ms1 + ms2 ≤ _; omega) ?_
    exact kk f2 H2 lc2 ls (lv_sub hl [2, 3, 4, 5, 6] rfl) hS2 hJ ⟨⟨fs2, hxa2⟩, ⟨kc, wr2, L2, Z2, S2, G2, P2, Ex2, O2, T2, V2, hm2⟩, ⟨go, hoa2⟩⟩
  · refine lv_aload_n hx hb d_La_law_1201 rfl (lv_at hl 5 rfl) ?_
    refine lv_iconst (v := 0) hx hb d_La_law_1202 (by decide) ?_
    refine pw_lld X hS2 hoa2 (vp_in_nI (n := 0) (by decide) (by decide)) d_La_law_1203 ?_
    refine lv_topl (fun yy ey => ?_)
    obtain rfl : yy = bb := by rw [ey]; exact hgo ck
    clear ey
    refine lv_lload hx hb d_La_law_1204 (lv_at hl 0 rfl) ?_
    refine W.lcmp hx hb d_La_law_1206 ?_
    refine lv_if_eq (tgt := 1212) hx hb d_La_law_1207 (by decide) (fun _ => ?_) (fun cw => absurd cw (not_not_intro ((lg_cmp_eq _ _).mpr rfl)))
    refine lv_goto (tgt := 1215) hx hb d_La_law_1212 (by decide) ?_
    refine W.widen (k := cells + 1000) (n := slots + 12000) (by show cells + mc1 + mc2 ≤ _; omega) (by show slots + ms1 + ms2 ≤ _; omega) ?_
    exact kk f2 H2 lc2 ls (lv_sub hl [2, 3, 4, 5, 6] rfl) hS2 hJ ⟨⟨fs2, hxa2⟩, ⟨kc, wr2, L2, Z2, S2, G2, P2, Ex2, O2, T2, V2, hm2⟩, ⟨go, hoa2⟩⟩
