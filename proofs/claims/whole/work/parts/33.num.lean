/-! NUM: what an object of the class Num holds -/
def nL (L : q_L) (a w : Nat) : Prop := (L a = some (.inl (0, [some (a + 1), none, none])) ∧ L (a + 1) = some (.inr (0, w, none))) ∧ w < 1000
/-- n limbs, worth m, with the sign s; not yet trimmed -/
def nU (σ : q_S) (a w n : Nat) (m s : Int) : Prop := σ a 1 = n ∧ σ a 2 = s ∧ n ≤ w ∧ (∀ k, k < n → 0 ≤ σ (a + 1) k ∧ σ (a + 1) k < 2147483648) ∧ dv 2147483648 (σ (a + 1)) n = m
/-- the whole number x -/
def nV (σ : q_S) (a w : Nat) (x : Int) : Prop := ∃ n : Nat, nU σ a w n x.natAbs x.sign ∧ (0 < n → σ (a + 1) (n - 1) ≠ 0)
theorem nU.mv {σ σ' : q_S} {a w n : Nat} {m s : Int} (h : nU σ a w n m s) (h1 : σ' a = σ a) (h2 : σ' (a + 1) = σ (a + 1)) : nU σ' a w n m s := by
  unfold nU
  rw [h1, h2]
  exact h
theorem nV.mv {σ σ' : q_S} {a w : Nat} {x : Int} (h : nV σ a w x) (h1 : σ' a = σ a) (h2 : σ' (a + 1) = σ (a + 1)) : nV σ' a w x := by
  obtain ⟨n, hu, ht⟩ := h
  exact ⟨n, hu.mv h1 h2, by rw [h2]; exact ht⟩
/-- how many limbs -/
theorem nU.le {σ : q_S} {a w n k : Nat} {m s : Int} (h : nU σ a w n m s) (ht : 0 < n → σ (a + 1) (n - 1) ≠ 0) : n ≤ k ↔ m < 2147483648 ^ k := by
  obtain ⟨-, -, -, hd, hm⟩ := h
  subst hm
  constructor
  · intro hk
    have h1 := (dv_range (by decide) hd).2
    have h2 := ip_le (B := 2147483648) (by decide) hk
    omega
  · intro hk
    by_cases hn : n ≤ k
    · exact hn
    · obtain ⟨j, rfl⟩ : ∃ j, n = j + 1 := ⟨n - 1, by omega⟩
      have h1 := dv_top (by decide) hd (ht (by omega))
      have h2 := ip_le (B := 2147483648) (by decide) (show k ≤ j by omega)
      omega
theorem nU.zero {σ : q_S} {a w n : Nat} {m s : Int} (h : nU σ a w n m s) (ht : 0 < n → σ (a + 1) (n - 1) ≠ 0) : n = 0 ↔ m = 0 := by
  have h1 := nU.le h ht (k := 0)
  have h2 : 0 ≤ m := by
    obtain ⟨-, -, -, hd, hm⟩ := h
    subst hm
    exact (dv_range (by decide) hd).1
  simp at h1
  omega
/-- trimmed, it is a number -/
theorem nU.val {σ : q_S} {a w n : Nat} {m s : Int} (h : nU σ a w n m (if m = 0 then 0 else s)) (ht : 0 < n → σ (a + 1) (n - 1) ≠ 0) {x : Int} (hx : m = x.natAbs) (hs : x ≠ 0 → s = x.sign) : nV σ a w x := by
  refine ⟨n, ?_, ht⟩
  subst hx
  by_cases h0 : x = 0
  · subst h0; simpa using h
  · rw [if_neg (by omega), hs h0] at h
    exact h
