/-! FROM THE STORE TO THE LAW: sign -/
theorem pw_C.mono {l : Launch} {K : pw_K} {y : MethodName} {b : ByteArray} {nL : Nat} {ret : Option FieldType} {rm : Room} {f : pw_F} {av : List Value} {sz : Nat} {post post' : Option Value → pw_F → Nat → Prop} (h : pw_C l K y b nL ret rm f av sz post) (hp : ∀ v f2 z, post v f2 z → post' v f2 z) : pw_C l K y b nL ret rm f av sz post' := by
  intro p e h1 h2 h3 s m args below h4 h5 h6 h7
  obtain ⟨n, o, a1, a2, a3, ⟨v, f2, c1, c2, c3, c4⟩, a4⟩ := h p e h1 h2 h3 s m args below h4 h5 h6 h7
  exact ⟨n, o, a1, a2, a3, ⟨v, f2, c1, hp _ _ _ c2, c3, c4⟩, a4⟩
/-- a contract over the store, as the law's rows want it -/
theorem q_C.as {l : Launch} {K : pw_K} {L : q_L} {y : MethodName} {b : ByteArray} {nL : Nat} {ret : Option FieldType} {d : Nat} {av : List Value} {σ : q_S} {post : Option Value → q_S → Prop} {f : pw_F} (h : q_C l K L y b nL ret d av σ post) (hat : q_at K L σ f) (sz : Nat) {r : Option Value} {F : q_S → Prop} (hp : ∀ v σ', post v σ' → v = r ∧ F σ') : pw_C l K y b nL ret (rmk d 0 0) f av sz (fun v f2 _ => v = r ∧ ∃ σ' : q_S, q_at K L σ' f2 ∧ (∀ q, L q = none → f2 q = f q) ∧ F σ') :=
  (h f sz hat).mono (fun v f2 z hq => by
    obtain ⟨-, σ', h2, h3, h4⟩ := hq
    obtain ⟨h5, h6⟩ := hp v σ' h4
    exact ⟨h5, σ', h2, h3, h6⟩)
theorem q_at.out {K : pw_K} {L : q_L} {σ : q_S} {f : pw_F} {o : Nat} {x : va_E} (h : q_at K L σ f) (ho : L o = none) : q_at K L σ (pw_up f o x) := fun q c hq => by
  rw [pw_up_ne (fun e => by rw [e, ho] at hq; cases hq)]
  exact h q c hq
theorem q_at.mo {K : pw_K} {L : q_L} {σ : q_S} {f : pw_F} {m : Nat} (h : q_at K L σ f) (hM : mL L m) : mo K f m (Int32.ofInt (σ m 0)) (Int32.ofInt (σ m 9)) (fun j => Int32.ofInt (σ (m + 1) j)) (fun j => Int32.ofInt (σ (m + 2) j)) (fun j => Int32.ofInt (σ (m + 3) j)) (fun j => Int32.ofInt (σ (m + 4) j)) (fun j => Int32.ofInt (σ (m + 5) j)) (fun j => Int32.ofInt (σ (m + 6) j)) (fun j => Int32.ofInt (σ (m + 7) j)) (fun j => Int32.ofInt (σ (m + 8) j)) (fun j => Int32.ofInt (σ (m + 9) j)) := by
  obtain ⟨h0, h1, h2, h3, h4, h5, h6, h7, h8, h9⟩ := hM
  exact ⟨h _ _ h0, h _ _ h1, h _ _ h2, h _ _ h3, h _ _ h4, h _ _ h5, h _ _ h6, h _ _ h7, h _ _ h8, h _ _ h9⟩
/-- what every call keeps: the layout, and the out cell beside it -/
def lay (K : pw_K) (L : q_L) (xa : Nat) (σ : q_S) (f : pw_F) : Prop := dL L xa ∧ mL L (xa + 617) ∧ L (xa + 627) = none ∧ q_at K L σ f ∧ ∃ go : Nat → Int64, f (xa + 627) = some (.inl (pE K 1, 1, .inr (.inl go)))
theorem lay.bas {K : pw_K} {L : q_L} {xa : Nat} {σ : q_S} {f : pw_F} (h : lay K L xa σ f) : bas K xa (xa + 617) (xa + 627) f := ⟨⟨_, h.2.2.2.1 _ _ h.1.1⟩, ⟨_, _, _, _, _, _, _, _, _, _, _, h.2.2.2.1.mo h.2.1⟩, h.2.2.2.2⟩
set_option maxHeartbeats 4000000 in
set_option maxRecDepth 100000 in
theorem ok_sign {l : Launch} {K : pw_K} {xa : Nat} {L : q_L} {σ : q_S} {f : pw_F} {J : pw_F → Prop} (hl : lay K L xa σ f) {j n ex : Nat} {a : Int} {P : Nat → Int} (hj : j < 2) (hn : n ≤ 8) (hex : ex ≤ 62) (ha : -9223372036854775808 ≤ a ∧ a < 9223372036854775808) (hd1 : σ (xa + 2 + 177 * j + 2) 1 = n) (hP1 : ∀ k, k ≤ n → nV σ (xa + 2 + 177 * j + 2 + 2 + 2 * k) 48 (P k)) (hd2 : σ (xa + 617 + 4) j = n) (hP2 : ∀ k, k ≤ n → rV σ (xa + 617) (9 * j + k) (P k)) (hPb : ∀ k, k ≤ n → ((P k).natAbs : Int) ≤ 2147483648)
    (hJ : ∀ (f3 : pw_F) (σ3 : q_S), lay K L xa σ3 f3 → (∀ q, (q < xa + 356 ∨ xa + 447 ≤ q) → q < xa + 617 → σ3 q = σ q) → (∀ q, xa + 617 + 4 ≤ q → q ≤ xa + 617 + 8 → σ3 q = σ q) → (∀ k, k ≠ 0 → σ3 (xa + 617) k = σ (xa + 617) k) → (∀ r, r ≠ 103 → r ≠ 104 → r ≠ 112 → rE σ σ3 (xa + 617) r) → J f3) : st_sign l K xa (xa + 617) (xa + 627) (nI j) (Int64.ofInt a) (nI ex) f J := by
  obtain ⟨hD, hM, hLo, hat, go, ho⟩ := hl
  refine ⟨0, fun f2 => ∃ (σ2 : q_S) (go2 : Nat → Int64), q_at K L σ2 f2 ∧ f2 (xa + 627) = some (.inl (pE K 1, 1, .inr (.inl go2))) ∧ go2 0 = (Int32.ofInt (hv P n a ex (n + 1)).sign).toInt64 ∧ ∀ q, (q < xa + 356 ∨ xa + 356 + 91 ≤ q) → σ2 q = σ q, ⟨5, 0, 0, ⟨by omega, by omega, by omega⟩, fun sz => ⟨_, v_La_sign l K f xa (xa + 627) sz 4 0 0 (nI j) (Int64.ofInt a) (nI ex) (Int32.ofInt (hv P n a ex (n + 1)).sign) (hat _ _ hD.1) (post := fun f2 _ => ∃ σ' : q_S, q_at K L σ' f2 ∧ (∀ q, L q = none → f2 q = f q) ∧ ∀ q, (q < xa + 356 ∨ xa + 356 + 91 ≤ q) → σ' q = σ q) ((q_D_sign l K σ hD hj hn hex ha hd1 hP1 hPb).as hat sz (fun v σ' h => h)) (fun f2 z h => ?_), fun v f2 z h => ?_⟩⟩, fun f2 h2 => ?_⟩
  · obtain ⟨σ', -, h3, -⟩ := h
    exact ⟨go, (h3 _ hLo).trans ho⟩
  · obtain ⟨h1, f1, g1, ⟨σ', h2, h3, h4⟩, h5, rfl⟩ := h
    exact ⟨h1, σ', g1, h2.out hLo, pw_up_self _ _ _, h5, h4⟩
  · obtain ⟨σ2, go2, h3, h4, h5, h6⟩ := h2
    refine ⟨lay.bas (σ := σ2) ⟨hD, hM, hLo, h3, go2, h4⟩, Int32.ofInt (hv P n a ex (n + 1)).sign, 4, 0, 0, ⟨by omega, by omega, by omega⟩, fun sz => ⟨_, (q_Mo_sign l K σ2 hM hj hn hex ha (by rw [h6 _ (by omega)]; exact hd2) (fun k hk => (hP2 k hk).mv ⟨fun u _ => by show σ2 (xa + 617 + 1) _ = σ (xa + 617 + 1) _; rw [h6 _ (by omega)], by rw [h6 _ (by omega)], by rw [h6 _ (by omega)]⟩) hPb).as h3 sz (fun v σ' h => h), fun v f3 z h => ?_⟩⟩
    obtain ⟨e1, σ3, e2, e3, e4, e5, e6, e7⟩ := h
    have ho3 := (e3 _ hLo).trans h4
    have hmo := e2.mo hM
    rw [e4] at hmo
    refine ⟨e1, ⟨_, e2 _ _ hD.1⟩, ⟨_, _, _, _, _, _, _, _, _, _, hmo⟩, ⟨go2, ho3, fun _ => h5⟩, hJ f3 σ3 ⟨hD, hM, hLo, e2, go2, ho3⟩ (fun q hq hq2 => ?_) (fun q hq hq2 => ?_) (fun k hk => ?_) (fun r r1 r2 r3 => rE.trans ⟨fun u _ => ?_, ?_, ?_⟩ (e7 r r1 r2 r3))⟩
    · rw [e6 q (by omega) (by omega) (by omega) (by omega) (by omega)]; exact h6 q (by omega)
    · rw [e6 q (by omega) (by omega) (by omega) (by omega) (by omega)]; exact h6 q (by omega)
    · rw [e5 k hk]; rw [h6 _ (by omega)]
    · show σ2 (xa + 617 + 1) _ = σ (xa + 617 + 1) _; rw [h6 _ (by omega)]
    · rw [h6 _ (by omega)]
    · rw [h6 _ (by omega)]
