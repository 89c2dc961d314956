/-! SHAPES of what the constructors make: everything lies at fixed places behind its object -/
abbrev rmk (d mc ms : Nat) : Room := { frames := d, cells := mc, slots := ms, locals := 64 * d }
def zNu (K : pw_K) (f : pw_F) (a n : Nat) : Prop := f a = some (.inr (0, [.ref (a + 1), .int 0, .int 0])) ∧ f (a + 1) = some (.inl (pE K 0, n, .inl (fun _ => 0)))
def zPt (K : pw_K) (f : pw_F) (a : Nat) : Prop := f a = some (.inr (1, [.ref (a + 1), .int 0])) ∧ zNu K f (a + 1) 48
def zPy (K : pw_K) (f : pw_F) (a n c : Nat) : Prop := f a = some (.inr (2, [.ref (a + 1), .int (-1)])) ∧ (∃ g : Nat → Option Nat, f (a + 1) = some (.inl (pE K 4, n, .inr (.inr (.inr (.inr g))))) ∧ ∀ k, k < n → g k = some (a + 2 + 2 * k)) ∧ ∀ k, k < n → zNu K f (a + 2 + 2 * k) c
def zDi (K : pw_K) (f : pw_F) (a : Nat) : Prop := f a = some (.inr (3, [.ref (a + 1), .ref (a + 3), .ref (a + 5), .ref (a + 7)])) ∧ zNu K f (a + 1) 160 ∧ zNu K f (a + 3) 160 ∧ zNu K f (a + 5) 160 ∧ zNu K f (a + 7) 160
def chO (h k : Nat) : Nat := if k = 0 then 2 else 4 + 2 * h + (k - 1) * (22 - k)
def chN (h k : Nat) : Nat := if k = 0 then h else 10 - k
def zCh (K : pw_K) (f : pw_F) (a h : Nat) : Prop := f a = some (.inr (5, [.ref (a + 1), .int 0, .int 0])) ∧ (∃ g : Nat → Option Nat, f (a + 1) = some (.inl (pE K 5, 10, .inr (.inr (.inr (.inr g))))) ∧ ∀ k, k < 10 → g k = some (a + chO h k)) ∧ ∀ k, k < 10 → zPy K f (a + chO h k) (chN h k) 48
def zRo (K : pw_K) (f : pw_F) (a : Nat) : Prop := f a = some (.inr (6, [.ref (a + 1), .int 0, .int 0, .int 0, .int 0])) ∧ zNu K f (a + 1) 48
def zBe (K : pw_K) (f : pw_F) (a : Nat) : Prop := f a = some (.inr (4, [.ref (a + 1), .ref (a + 3), .ref (a + 5), .ref (a + 7), .ref (a + 9), .ref (a + 11), .ref (a + 13), .ref (a + 15), .ref (a + 17), .ref (a + 19), .ref (a + 21), .ref (a + 23), .ref (a + 25), .ref (a + 28), .ref (a + 37), .ref (a + 71)])) ∧ (∀ k, k < 12 → zNu K f (a + 1 + 2 * k) 160) ∧ zPt K f (a + 25) ∧ zDi K f (a + 28) ∧ zPy K f (a + 37) 16 160 ∧ zPy K f (a + 71) 9 48
def zHe (K : pw_K) (f : pw_F) (a : Nat) : Prop := f a = some (.inr (7, [.ref (a + 1), .ref (a + 2), .ref (a + 22), .ref (a + 152), .int 0, .int 0, .int 0, .int 0, .int 0])) ∧ f (a + 1) = some (.inl (pE K 0, 9, .inl (fun _ => 0))) ∧ zPy K f (a + 2) 9 48 ∧ zCh K f (a + 22) 9 ∧ (∃ g : Nat → Option Nat, f (a + 152) = some (.inl (pE K 6, 8, .inr (.inr (.inr (.inr g))))) ∧ ∀ k, k < 8 → g k = some (a + 153 + 3 * k)) ∧ ∀ k, k < 8 → zRo K f (a + 153 + 3 * k)
def zQu (K : pw_K) (f : pw_F) (a : Nat) : Prop := f a = some (.inr (8, [.ref (a + 1), .ref (a + 145)])) ∧ zCh K f (a + 1) 16 ∧ zPy K f (a + 145) 9 48
def zTx (K : pw_K) (f : pw_F) (a : Nat) : Prop := f a = some (.inr (9, [.ref (a + 1), .ref (a + 2), .ref (a + 3), .int 0])) ∧ f (a + 1) = some (.inl (pE K 3, 128, .inl (fun _ => 0))) ∧ f (a + 2) = some (.inl (pE K 3, 128, .inl (fun _ => 0))) ∧ zNu K f (a + 3) 160
def zD (K : pw_K) (f : pw_F) (a : Nat) : Prop := f a = some (.inr (10, [.ref (a + 1), .ref (a + 356), .ref (a + 447), .ref (a + 612)])) ∧ (∃ g : Nat → Option Nat, f (a + 1) = some (.inl (pE K 7, 2, .inr (.inr (.inr (.inr g))))) ∧ ∀ k, k < 2 → g k = some (a + 2 + 177 * k)) ∧ (∀ k, k < 2 → zHe K f (a + 2 + 177 * k)) ∧ zBe K f (a + 356) ∧ zQu K f (a + 447) ∧ zTx K f (a + 612)
-- a shape stays where its block stays
theorem zNu.mv {K : pw_K} {f f' : pw_F} {a n : Nat} (h : zNu K f a n) (e : ∀ q, a ≤ q → q < a + 2 → f' q = f q) : zNu K f' a n := ⟨(e _ (by omega) (by omega)).trans h.1, (e _ (by omega) (by omega)).trans h.2⟩
theorem zPt.mv {K : pw_K} {f f' : pw_F} {a : Nat} (h : zPt K f a) (e : ∀ q, a ≤ q → q < a + 3 → f' q = f q) : zPt K f' a := ⟨(e _ (by omega) (by omega)).trans h.1, h.2.mv (fun q h1 h2 => e q (by omega) (by omega))⟩
theorem zRo.mv {K : pw_K} {f f' : pw_F} {a : Nat} (h : zRo K f a) (e : ∀ q, a ≤ q → q < a + 3 → f' q = f q) : zRo K f' a := ⟨(e _ (by omega) (by omega)).trans h.1, h.2.mv (fun q h1 h2 => e q (by omega) (by omega))⟩
theorem zPy.mv {K : pw_K} {f f' : pw_F} {a n c : Nat} (h : zPy K f a n c) (e : ∀ q, a ≤ q → q < a + 2 + 2 * n → f' q = f q) : zPy K f' a n c := by
  obtain ⟨h1, ⟨g, h2, h3⟩, h4⟩ := h
  exact ⟨(e _ (by omega) (by omega)).trans h1, ⟨g, (e _ (by omega) (by omega)).trans h2, h3⟩, fun k hk => (h4 k hk).mv (fun q a1 a2 => e q (by omega) (by omega))⟩
theorem zDi.mv {K : pw_K} {f f' : pw_F} {a : Nat} (h : zDi K f a) (e : ∀ q, a ≤ q → q < a + 9 → f' q = f q) : zDi K f' a := by
  obtain ⟨h1, h2, h3, h4, h5⟩ := h
  exact ⟨(e _ (by omega) (by omega)).trans h1, h2.mv (fun q a1 a2 => e q (by omega) (by omega)), h3.mv (fun q a1 a2 => e q (by omega) (by omega)), h4.mv (fun q a1 a2 => e q (by omega) (by omega)), h5.mv (fun q a1 a2 => e q (by omega) (by omega))⟩
theorem chO_le (h : Nat) : ∀ k, k < 10 → 2 ≤ chO h k ∧ chO h k + 2 + 2 * chN h k ≤ 112 + 2 * h := by
  intro k hk
  rcases k with _ | _ | _ | _ | _ | _ | _ | _ | _ | _ | k <;> simp [chO, chN] <;> omega
theorem zCh.mv {K : pw_K} {f f' : pw_F} {a n : Nat} (h : zCh K f a n) (e : ∀ q, a ≤ q → q < a + 112 + 2 * n → f' q = f q) : zCh K f' a n := by
  obtain ⟨h1, ⟨g, h2, h3⟩, h4⟩ := h
  exact ⟨(e _ (by omega) (by omega)).trans h1, ⟨g, (e _ (by omega) (by omega)).trans h2, h3⟩, fun k hk => (h4 k hk).mv (fun q a1 a2 => e q (by omega) (by have := chO_le n k hk; omega))⟩
theorem zBe.mv {K : pw_K} {f f' : pw_F} {a : Nat} (h : zBe K f a) (e : ∀ q, a ≤ q → q < a + 91 → f' q = f q) : zBe K f' a := by
  obtain ⟨h1, h2, h3, h4, h5, h6⟩ := h
  exact ⟨(e _ (by omega) (by omega)).trans h1, fun k hk => (h2 k hk).mv (fun q a1 a2 => e q (by omega) (by omega)), h3.mv (fun q a1 a2 => e q (by omega) (by omega)), h4.mv (fun q a1 a2 => e q (by omega) (by omega)), h5.mv (fun q a1 a2 => e q (by omega) (by omega)), h6.mv (fun q a1 a2 => e q (by omega) (by omega))⟩
theorem zHe.mv {K : pw_K} {f f' : pw_F} {a : Nat} (h : zHe K f a) (e : ∀ q, a ≤ q → q < a + 177 → f' q = f q) : zHe K f' a := by
  obtain ⟨h1, h2, h3, h4, ⟨g, h5, h6⟩, h7⟩ := h
  exact ⟨(e _ (by omega) (by omega)).trans h1, (e _ (by omega) (by omega)).trans h2, h3.mv (fun q a1 a2 => e q (by omega) (by omega)), h4.mv (fun q a1 a2 => e q (by omega) (by omega)), ⟨g, (e _ (by omega) (by omega)).trans h5, h6⟩, fun k hk => (h7 k hk).mv (fun q a1 a2 => e q (by omega) (by omega))⟩
theorem zQu.mv {K : pw_K} {f f' : pw_F} {a : Nat} (h : zQu K f a) (e : ∀ q, a ≤ q → q < a + 165 → f' q = f q) : zQu K f' a := by
  obtain ⟨h1, h2, h3⟩ := h
  exact ⟨(e _ (by omega) (by omega)).trans h1, h2.mv (fun q a1 a2 => e q (by omega) (by omega)), h3.mv (fun q a1 a2 => e q (by omega) (by omega))⟩
theorem zTx.mv {K : pw_K} {f f' : pw_F} {a : Nat} (h : zTx K f a) (e : ∀ q, a ≤ q → q < a + 5 → f' q = f q) : zTx K f' a := by
  obtain ⟨h1, h2, h3, h4⟩ := h
  exact ⟨(e _ (by omega) (by omega)).trans h1, (e _ (by omega) (by omega)).trans h2, (e _ (by omega) (by omega)).trans h3, h4.mv (fun q a1 a2 => e q (by omega) (by omega))⟩
-- what an update leaves
theorem pw_n1 {f : pw_F} {a0 q : Nat} {x0 : va_E} (h0 : q ≠ a0) : (pw_up f a0 x0) q = f q := pw_up_ne h0
theorem pw_n2 {f : pw_F} {a0 a1 q : Nat} {x0 x1 : va_E} (h0 : q ≠ a0) (h1 : q ≠ a1) : (pw_up (pw_up f a0 x0) a1 x1) q = f q := (pw_up_ne h1).trans (pw_up_ne h0)
theorem pw_n3 {f : pw_F} {a0 a1 a2 q : Nat} {x0 x1 x2 : va_E} (h0 : q ≠ a0) (h1 : q ≠ a1) (h2 : q ≠ a2) : (pw_up (pw_up (pw_up f a0 x0) a1 x1) a2 x2) q = f q := (pw_up_ne h2).trans ((pw_up_ne h1).trans (pw_up_ne h0))
theorem pw_n4 {f : pw_F} {a0 a1 a2 a3 q : Nat} {x0 x1 x2 x3 : va_E} (h0 : q ≠ a0) (h1 : q ≠ a1) (h2 : q ≠ a2) (h3 : q ≠ a3) : (pw_up (pw_up (pw_up (pw_up f a0 x0) a1 x1) a2 x2) a3 x3) q = f q := (pw_up_ne h3).trans ((pw_up_ne h2).trans ((pw_up_ne h1).trans (pw_up_ne h0)))
theorem pw_n5 {f : pw_F} {a0 a1 a2 a3 a4 q : Nat} {x0 x1 x2 x3 x4 : va_E} (h0 : q ≠ a0) (h1 : q ≠ a1) (h2 : q ≠ a2) (h3 : q ≠ a3) (h4 : q ≠ a4) : (pw_up (pw_up (pw_up (pw_up (pw_up f a0 x0) a1 x1) a2 x2) a3 x3) a4 x4) q = f q := (pw_up_ne h4).trans ((pw_up_ne h3).trans ((pw_up_ne h2).trans ((pw_up_ne h1).trans (pw_up_ne h0))))
theorem pw_n6 {f : pw_F} {a0 a1 a2 a3 a4 a5 q : Nat} {x0 x1 x2 x3 x4 x5 : va_E} (h0 : q ≠ a0) (h1 : q ≠ a1) (h2 : q ≠ a2) (h3 : q ≠ a3) (h4 : q ≠ a4) (h5 : q ≠ a5) : (pw_up (pw_up (pw_up (pw_up (pw_up (pw_up f a0 x0) a1 x1) a2 x2) a3 x3) a4 x4) a5 x5) q = f q := (pw_up_ne h5).trans ((pw_up_ne h4).trans ((pw_up_ne h3).trans ((pw_up_ne h2).trans ((pw_up_ne h1).trans (pw_up_ne h0)))))
