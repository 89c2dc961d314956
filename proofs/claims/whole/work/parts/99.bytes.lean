/-! THE STORE: elements of boolean[] and byte[] are written -/
section
variable {p : Program} {l : Launch} {e : Env} {R : Room} {s : State} {m : MethodId} {args : Array Value} {below : List Frame} {meth : Method} {c : Code} {H : Heap} {locs : List Loc} {cells slots : Nat} {Q : State → Prop}
variable {cc : ByteArray} {pc nL : Nat} {ls : Array Slot} {rest : List Value} {K : pw_K} {f : pw_F} {own : String}
theorem pw_zst (X : pw_X p s m args meth c K own cc nL) (hS : pw_S K f H locs) {a n : Nat} {g : Nat → Int32} (ha : f a = some (.inl (pE K 2, n, .inl g))) {i x : Int32} (hin : vp_in i n) (hn : narrow .boolean (.int x) = .int x) (hdg : decode cc pc = .ok (.bastore, 1))
    (kk : ∀ (H1 : Heap) (locs1 : List Loc), H1.size = H.size → pw_S K (pw_up f a (.inl (pE K 2, n, .inl (upd g i.toNatClampNeg x)))) H1 locs1 → W p l e R s m args below meth c H1 locs1 cells slots Q (F0 m (pc + 1) ls rest)) : W p l e R s m args below meth c H locs cells slots Q (F0 m pc ls (.int x :: .int i :: .ref a :: rest)) := by
  obtain ⟨hx, hb, -, hown, hts, hK, -, -, -⟩ := X
  obtain ⟨hlo, hcell⟩ := hS.1.2 a _ ha
  refine W.zast hx hb hcell ((hK.2 2 _ rfl).1 n (fun j => .int (g j))) (fun q => by cases q) (by show ¬ (i < 0 ∨ (arrV _ _ _).slots.size ≤ _); rw [arrV_size]; exact hin) rfl rfl hdg fun H1 e1 z oq => ?_
  rw [hn] at e1
  refine kk H1 _ z ⟨hS.1.set ha ?_ oq, pw_locs hS.2.1 hlo, by rw [z]; exact hS.2.2⟩
  show H1[a]? = some (vp_cell _ _)
  rw [e1, vp_cell_i, vp_cell_i, arrV_store]
  congr 2
  funext q
  by_cases hq : q = i.toNatClampNeg
  · subst hq; simp [updV, upd]
  · simp [updV, upd, hq]
theorem pw_bst (X : pw_X p s m args meth c K own cc nL) (hS : pw_S K f H locs) {a n : Nat} {g : Nat → Int32} (ha : f a = some (.inl (pE K 3, n, .inl g))) {i x : Int32} (hin : vp_in i n) (hn : narrow .byte (.int x) = .int x) (hdg : decode cc pc = .ok (.bastore, 1))
    (kk : ∀ (H1 : Heap) (locs1 : List Loc), H1.size = H.size → pw_S K (pw_up f a (.inl (pE K 3, n, .inl (upd g i.toNatClampNeg x)))) H1 locs1 → W p l e R s m args below meth c H1 locs1 cells slots Q (F0 m (pc + 1) ls rest)) : W p l e R s m args below meth c H locs cells slots Q (F0 m pc ls (.int x :: .int i :: .ref a :: rest)) := by
  obtain ⟨hx, hb, -, hown, hts, hK, -, -, -⟩ := X
  obtain ⟨hlo, hcell⟩ := hS.1.2 a _ ha
  refine W.bast hx hb hcell ((hK.2 3 _ rfl).1 n (fun j => .int (g j))) (fun q => by cases q) (by show ¬ (i < 0 ∨ (arrV _ _ _).slots.size ≤ _); rw [arrV_size]; exact hin) rfl rfl hdg fun H1 e1 z oq => ?_
  rw [hn] at e1
  refine kk H1 _ z ⟨hS.1.set ha ?_ oq, pw_locs hS.2.1 hlo, by rw [z]; exact hS.2.2⟩
  show H1[a]? = some (vp_cell _ _)
  rw [e1, vp_cell_i, vp_cell_i, arrV_store]
  congr 2
  funext q
  by_cases hq : q = i.toNatClampNeg
  · subst hq; simp [updV, upd]
  · simp [updV, upd, hq]
end
theorem nar_z {z : Int} (h : z = 0 ∨ z = 1) : narrow .boolean (.int (Int32.ofInt z)) = .int (Int32.ofInt z) := by
  rcases h with h | h <;> subst h <;> rfl
theorem nar_b {z : Int} (h : -128 ≤ z ∧ z < 128) : narrow .byte (.int (Int32.ofInt z)) = .int (Int32.ofInt z) := congrArg Value.int (q_i2b_eq h)
section
variable {l : Launch} {K : pw_K} {L : q_L} {own : String} {cc : ByteArray} {nL : Nat} {ret : Option FieldType} {d : Nat} {post : Option Value → q_S → Prop} {pc : Nat} {lv : List (Option Value)} {st : List Value} {σ : q_S}
theorem q_zas (k : Nat) {a n : Nat} {i z : Int} (hL : L a = some (.inr (2, n, none))) (hi : i = (k : Int)) (hk : k < n) (hn : n < 2147483648) (hz0 : z = 0 ∨ z = 1) (hdg : decode cc pc = .ok (.bastore, 1)) (kk : q_T l K L own cc nL ret d post (pc + 1) lv st (q_up σ a k z)) : q_T l K L own cc nL ret d post pc lv (vi z :: vi i :: .ref a :: st) σ := by
  intro p e s m args below meth c H locs ls f f0 sz X hr hz hS ha hf hl
  obtain ⟨h1, h2⟩ := q_in hi hk hn
  refine pw_zst X hS (ha a _ hL) h1 (nar_z hz0) hdg (fun H1 lc1 hy hS1 => ?_)
  rw [h2] at hS1
  exact kk _ _ _ _ _ _ _ _ _ _ _ _ _ _ X hr (hy.trans hz) hS1 (ha.set hL k z) (fun q hq => (pw_up_ne (q_L_ne hL hq)).trans (hf q hq)) hl
theorem q_bas (k : Nat) {a n : Nat} {i z : Int} (hL : L a = some (.inr (3, n, none))) (hi : i = (k : Int)) (hk : k < n) (hn : n < 2147483648) (hz0 : -128 ≤ z ∧ z < 128) (hdg : decode cc pc = .ok (.bastore, 1)) (kk : q_T l K L own cc nL ret d post (pc + 1) lv st (q_up σ a k z)) : q_T l K L own cc nL ret d post pc lv (vi z :: vi i :: .ref a :: st) σ := by
  intro p e s m args below meth c H locs ls f f0 sz X hr hz hS ha hf hl
  obtain ⟨h1, h2⟩ := q_in hi hk hn
  refine pw_bst X hS (ha a _ hL) h1 (nar_b hz0) hdg (fun H1 lc1 hy hS1 => ?_)
  rw [h2] at hS1
  exact kk _ _ _ _ _ _ _ _ _ _ _ _ _ _ X hr (hy.trans hz) hS1 (ha.set hL k z) (fun q hq => (pw_up_ne (q_L_ne hL hq)).trans (hf q hq)) hl
end
