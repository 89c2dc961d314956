section PWM
variable {p : Program} {l : Launch} {e : Env} {R : Room} {s : State} {m : MethodId} {args : Array Value} {below : List Frame} {meth : Method} {c : Code} {H : Heap} {locs : List Loc} {cells slots : Nat} {Q : State → Prop}
variable {cc : ByteArray} {pc nL : Nat} {ls : Array Slot} {rest st : List Value} {K : pw_K} {f : pw_F} {own : String}
theorem pw_ldc (X : pw_X p s m args meth c K own cc nL) {index : Nat} {v : Int32} (hk : Cond.constant own index v ∈ lw_G) (hdg : decode cc pc = .ok (.ldc index, 2)) (kk : W p l e R s m args below meth c H locs cells slots Q (F0 m (pc + 2) ls (.int v :: rest))) : W p l e R s m args below meth c H locs cells slots Q (F0 m pc ls rest) := by
  obtain ⟨hx, hb, -, hown, hts, -, -, -, -⟩ := X
  exact W.ldc hx hb hown (hts _ hk) rfl hdg kk
theorem pw_ldc2 (X : pw_X p s m args meth c K own cc nL) {index : Nat} {v : Int64} (hk : Cond.constantLong own index v ∈ lw_G) (hdg : decode cc pc = .ok (.ldc2_w index, 3)) (kk : W p l e R s m args below meth c H locs cells slots Q (F0 m (pc + 3) ls (.long v :: rest))) : W p l e R s m args below meth c H locs cells slots Q (F0 m pc ls rest) := by
  obtain ⟨hx, hb, -, hown, hts, -, -, -, -⟩ := X
  exact W.ldc2 hx hb hown (hts _ hk) rfl hdg kk
end PWM
