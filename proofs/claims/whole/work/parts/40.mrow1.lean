/-! THE REFERENCE'S ROWS: at, trim, takes, copy -/
def mL (L : q_L) (m : Nat) : Prop := L m = some (.inl (11, [none, some (m + 1), some (m + 2), some (m + 3), some (m + 4), some (m + 5), some (m + 6), some (m + 7), some (m + 8), none, some (m + 9)])) ∧ L (m + 1) = some (.inr (0, 163840, none)) ∧ L (m + 2) = some (.inr (0, 160, none)) ∧ L (m + 3) = some (.inr (0, 160, none)) ∧ L (m + 4) = some (.inr (0, 10, none)) ∧ L (m + 5) = some (.inr (0, 16, none)) ∧ L (m + 6) = some (.inr (2, 16, none)) ∧ L (m + 7) = some (.inr (0, 2, none)) ∧ L (m + 8) = some (.inr (0, 400, none)) ∧ L (m + 9) = some (.inr (0, 2060, none))
/-- limb k of row r -/
def mr (σ : q_S) (m r k : Nat) : Int := σ (m + 1) (1024 * r + k)
def rU (σ : q_S) (m r n : Nat) (M s : Int) : Prop := σ (m + 2) r = n ∧ σ (m + 3) r = s ∧ n ≤ 1024 ∧ (∀ k, k < n → 0 ≤ mr σ m r k ∧ mr σ m r k < 65536) ∧ dv 65536 (mr σ m r) n = M
/-- row r holds x -/
def rV (σ : q_S) (m r : Nat) (x : Int) : Prop := ∃ n : Nat, rU σ m r n x.natAbs x.sign ∧ (0 < n → mr σ m r (n - 1) ≠ 0)
/-- row r is what it was -/
def rE (σ σ' : q_S) (m r : Nat) : Prop := (∀ k, k < 1024 → mr σ' m r k = mr σ m r k) ∧ σ' (m + 2) r = σ (m + 2) r ∧ σ' (m + 3) r = σ (m + 3) r
/-- all but rows and spare is what it was -/
def rO (σ σ' : q_S) (m : Nat) : Prop := ∀ q, q ≠ m + 1 → q ≠ m + 2 → q ≠ m + 3 → q ≠ m + 9 → σ' q = σ q
theorem rE.rfl {σ : q_S} {m r : Nat} : rE σ σ m r := ⟨fun _ _ => Eq.refl _, Eq.refl _, Eq.refl _⟩
theorem rE.trans {σ σ1 σ2 : q_S} {m r : Nat} (h : rE σ σ1 m r) (g : rE σ1 σ2 m r) : rE σ σ2 m r := ⟨fun k hk => (g.1 k hk).trans (h.1 k hk), g.2.1.trans h.2.1, g.2.2.trans h.2.2⟩
theorem rO.trans {σ σ1 σ2 : q_S} {m : Nat} (h : rO σ σ1 m) (g : rO σ1 σ2 m) : rO σ σ2 m := fun q h1 h2 h3 h4 => (g q h1 h2 h3 h4).trans (h q h1 h2 h3 h4)
theorem rU.mv {σ σ' : q_S} {m r n : Nat} {M s : Int} (h : rU σ m r n M s) (g : rE σ σ' m r) : rU σ' m r n M s := by
  obtain ⟨h1, h2, h3, h4, h5⟩ := h
  exact ⟨g.2.1.trans h1, g.2.2.trans h2, h3, fun k hk => by rw [g.1 k (by omega)]; exact h4 k hk, by rw [← h5]; exact dv_congr (fun k hk => g.1 k (by omega))⟩
theorem rV.mv {σ σ' : q_S} {m r : Nat} {x : Int} (h : rV σ m r x) (g : rE σ σ' m r) : rV σ' m r x := by
  obtain ⟨n, hu, ht⟩ := h
  exact ⟨n, hu.mv g, fun h0 => by rw [g.1 _ (by have := hu.2.2.1; omega)]; exact ht h0⟩
theorem rU.le {σ : q_S} {m r n k : Nat} {M s : Int} (h : rU σ m r n M s) (ht : 0 < n → mr σ m r (n - 1) ≠ 0) : n ≤ k ↔ M < 65536 ^ k := by
  obtain ⟨-, -, -, hd, hm⟩ := h
  subst hm
  constructor
  · intro hk
    have h1 := (dv_range (by decide) hd).2
    have h2 := ip_le (B := 65536) (by decide) hk
    omega
  · intro hk
    by_cases hn : n ≤ k
    · exact hn
    · obtain ⟨j, rfl⟩ : ∃ j, n = j + 1 := ⟨n - 1, by omega⟩
      have h1 := dv_top (by decide) hd (ht (by omega))
      have h2 := ip_le (B := 65536) (by decide) (show k ≤ j by omega)
      omega
theorem rU.zero {σ : q_S} {m r n : Nat} {M s : Int} (h : rU σ m r n M s) (ht : 0 < n → mr σ m r (n - 1) ≠ 0) : n = 0 ↔ M = 0 := by
  have h1 := rU.le h ht (k := 0)
  have h2 : 0 ≤ M := by
    obtain ⟨-, -, -, hd, hm⟩ := h
    subst hm
    exact (dv_range (by decide) hd).1
  simp at h1
  omega
theorem rU.val {σ : q_S} {m r n : Nat} {M s : Int} (h : rU σ m r n M (if M = 0 then 0 else s)) (ht : 0 < n → mr σ m r (n - 1) ≠ 0) {x : Int} (hx : M = x.natAbs) (hs : x ≠ 0 → s = x.sign) : rV σ m r x := by
  refine ⟨n, ?_, ht⟩
  subst hx
  by_cases h0 : x = 0
  · subst h0; simpa using h
  · rw [if_neg (by omega), hs h0] at h
    exact h
theorem mr_up (σ : q_S) (m r k : Nat) (z : Int) : mr (q_up σ (m + 1) (1024 * r + k) z) m r k = z := q_up_self _ _ _ _
theorem mr_ne (σ : q_S) {m r k i j : Nat} (z : Int) (h : 1024 * i + j ≠ 1024 * r + k) : mr (q_up σ (m + 1) (1024 * r + k) z) m i j = mr σ m i j := q_up_k _ _ h
theorem mr_o (σ : q_S) {m a k i j : Nat} (z : Int) (h : m + 1 ≠ a) : mr (q_up σ a k z) m i j = mr σ m i j := by
  show q_up σ a k z (m + 1) _ = σ (m + 1) _
  rw [q_up_a _ _ h]
theorem pd_r16 {g : Nat → Int} {n : Nat} (h : ∀ k, k < n → 0 ≤ g k ∧ g k < 65536) (k : Nat) : 0 ≤ pd g n k ∧ pd g n k < 65536 := by
  unfold pd
  split
  · rename_i hk; exact h k hk
  · omega
set_option maxHeartbeats 4000000 in
set_option maxRecDepth 100000 in
theorem c_Mo_at (l : Launch) (K : pw_K) {L : q_L} {σ : q_S} {m r n : Nat} (k : Nat) (hL : mL L m) (hr : r < 160) (hn : σ (m + 2) r = n) (h10 : n ≤ 1024) (hk : k < 2147483648) : q_C l K L y_Mo_at b_Mo_at 3 (some .int) 0 [.ref m, vi r, vi k] σ (fun v σ' => v = some (vi (pd (mr σ m r) n k)) ∧ σ' = σ) := by
  obtain ⟨hM0, hM1, hM2, hM3, hM4, hM5, hM6, hM7, hM8, hM9⟩ := hL
  refine q_start [some (.ref m), some (vi r), some (vi k)] (by decide) (Nat.le_of_ble_eq_true rfl) (fun q h => h) ?_
  refine q_iload_n d_Mo_at_0 rfl ?_
  refine q_if_lt (tgt := 29) (by omega) d_Mo_at_1 (by decide) (fun c1 => absurd c1 (by omega)) (fun c1 => ?_)
  refine q_iload_n d_Mo_at_4 rfl ?_
  refine q_aload_n d_Mo_at_5 rfl ?_
  refine q_gr (by assumption) pc_Mo 2 (by decide) w_fl_Mo_14 rfl (by rfl) d_Mo_at_6 ?_
  refine q_iload_n d_Mo_at_9 rfl ?_
  refine q_ial (r) (by assumption) (by omega) (by omega) (by omega) d_Mo_at_10 ?_
  refine q_topi hn ?_
  refine q_icmp_ge (tgt := 29) (by omega) (by omega) d_Mo_at_11 (by decide) (fun ck => ?_) (fun ck => ?_)
  · refine q_iconst d_Mo_at_29 rfl ?_
    exact q_iret rfl (⟨by rw [show pd (mr σ m r) n k = 0 from if_neg (by omega)], rfl⟩) d_Mo_at_30
  · refine q_aload_n d_Mo_at_14 rfl ?_
    refine q_gr (by assumption) pc_Mo 1 (by decide) w_fl_Mo_8 rfl (by rfl) d_Mo_at_15 ?_
    refine q_sipush d_Mo_at_18 (by decide) ?_
    refine q_iload_n d_Mo_at_21 rfl ?_
    refine q_imul d_Mo_at_22 ?_
    refine q_iload_n d_Mo_at_23 rfl ?_
    refine q_iadd d_Mo_at_24 ?_
    refine q_ial (1024 * r + k) (by assumption) (by omega) (by omega) (by omega) d_Mo_at_25 ?_
    refine q_goto (tgt := 30) d_Mo_at_26 (by decide) ?_
    exact q_iret rfl (⟨by rw [show pd (mr σ m r) n k = σ (m + 1) (1024 * r + k) from if_pos (by omega)], rfl⟩) d_Mo_at_30
set_option maxHeartbeats 4000000 in
set_option maxRecDepth 100000 in
theorem c_Mo_trim (l : Launch) (K : pw_K) {L : q_L} {σ : q_S} {m r N : Nat} (hL : mL L m) (hr : r < 160) (hN : N ≤ 1024) (hd : ∀ k, k < N → 0 ≤ mr σ m r k ∧ mr σ m r k < 65536) : q_C l K L y_Mo_trim b_Mo_trim 3 none 0 [.ref m, vi r, vi N] σ (fun v σ' => v = none ∧ (∃ n', rU σ' m r n' (dv 65536 (mr σ m r) N) (if dv 65536 (mr σ m r) N = 0 then 0 else σ (m + 3) r) ∧ (0 < n' → mr σ' m r (n' - 1) ≠ 0)) ∧ (∀ q, q ≠ m + 2 → q ≠ m + 3 → σ' q = σ q) ∧ ∀ j, j ≠ r → σ' (m + 2) j = σ (m + 2) j ∧ σ' (m + 3) j = σ (m + 3) j) := by
  obtain ⟨hM0, hM1, hM2, hM3, hM4, hM5, hM6, hM7, hM8, hM9⟩ := hL
  refine q_start [some (.ref m), some (vi r), some (vi N)] (by decide) (Nat.le_of_ble_eq_true rfl) (fun q h => h) ?_
  have loop : ∀ (n : Nat), n ≤ N → ∀ (σ1 : q_S), σ1 (m + 2) r = n → dv 65536 (mr σ m r) n = dv 65536 (mr σ m r) N → (∀ q, q ≠ m + 2 → q ≠ m + 3 → σ1 q = σ q) → (∀ j, j ≠ r → σ1 (m + 2) j = σ (m + 2) j ∧ σ1 (m + 3) j = σ (m + 3) j) → σ1 (m + 3) r = σ (m + 3) r → q_T l K L R_Mo b_Mo_trim 3 none 0 (fun v σ' => v = none ∧ (∃ n', rU σ' m r n' (dv 65536 (mr σ m r) N) (if dv 65536 (mr σ m r) N = 0 then 0 else σ (m + 3) r) ∧ (0 < n' → mr σ' m r (n' - 1) ≠ 0)) ∧ (∀ q, q ≠ m + 2 → q ≠ m + 3 → σ' q = σ q) ∧ ∀ j, j ≠ r → σ' (m + 2) j = σ (m + 2) j ∧ σ' (m + 3) j = σ (m + 3) j) 7 [some (.ref m), some (vi r), some (vi N)] [] σ1 := by
    intro n
    induction n with
    | zero =>
      intro hn σ1 f1 f3 f4 f5 f6
      refine q_aload_n d_Mo_trim_7 rfl ?_
      refine q_gr (by assumption) pc_Mo 2 (by decide) w_fl_Mo_14 rfl (by rfl) d_Mo_trim_8 ?_
      refine q_iload_n d_Mo_trim_11 rfl ?_
      refine q_ial (r) (by assumption) (by omega) (by omega) (by omega) d_Mo_trim_12 ?_
      refine q_topi f1 ?_
      refine q_if_le (tgt := 51) (by omega) d_Mo_trim_13 (by decide) (fun c13 => ?_) (fun c13 => absurd c13 (by omega))
      refine q_aload_n d_Mo_trim_51 rfl ?_
      refine q_gr (by assumption) pc_Mo 2 (by decide) w_fl_Mo_14 rfl (by rfl) d_Mo_trim_52 ?_
      refine q_iload_n d_Mo_trim_55 rfl ?_
      refine q_ial (r) (by assumption) (by omega) (by omega) (by omega) d_Mo_trim_56 ?_
      refine q_topi f1 ?_
      refine q_if_ne (tgt := 67) (by omega) d_Mo_trim_57 (by decide) (fun c57 => absurd c57 (by omega)) (fun c57 => ?_)
      refine q_aload_n d_Mo_trim_60 rfl ?_
      refine q_gr (by assumption) pc_Mo 3 (by decide) w_fl_Mo_17 rfl (by rfl) d_Mo_trim_61 ?_
      refine q_iload_n d_Mo_trim_64 rfl ?_
      refine q_iconst d_Mo_trim_65 rfl ?_
      refine q_ias (r) (by assumption) (by omega) (by omega) (by omega) d_Mo_trim_66 ?_
      exact q_vret rfl (⟨rfl, ⟨0, ⟨by rw [q_up_a _ _ (by omega)]; exact f1, by rw [q_up_self, if_pos (by rw [← f3]; rfl)], by omega, fun k hk => by omega, f3⟩, fun h => by omega⟩, fun q h6 h7 => by rw [q_up_a _ _ h7]; exact f4 q h6 h7, fun j hj => ⟨by rw [q_up_a _ _ (by omega)]; exact (f5 j hj).1, by rw [q_up_k _ _ hj]; exact (f5 j hj).2⟩⟩) d_Mo_trim_67
    | succ n ih =>
      intro hn σ1 f1 f3 f4 f5 f6
      have hmr : mr σ1 m r = mr σ m r := by funext k; show σ1 (m + 1) _ = σ (m + 1) _; rw [f4 (m + 1) (by omega) (by omega)]
      refine q_aload_n d_Mo_trim_7 rfl ?_
      refine q_gr (by assumption) pc_Mo 2 (by decide) w_fl_Mo_14 rfl (by rfl) d_Mo_trim_8 ?_
      refine q_iload_n d_Mo_trim_11 rfl ?_
      refine q_ial (r) (by assumption) (by omega) (by omega) (by omega) d_Mo_trim_12 ?_
      refine q_topi f1 ?_
      refine q_if_le (tgt := 51) (by omega) d_Mo_trim_13 (by decide) (fun c13 => absurd c13 (by omega)) (fun c13 => ?_)
      refine q_aload_n d_Mo_trim_16 rfl ?_
      refine q_gr (by assumption) pc_Mo 1 (by decide) w_fl_Mo_8 rfl (by rfl) d_Mo_trim_17 ?_
      refine q_sipush d_Mo_trim_20 (by decide) ?_
      refine q_iload_n d_Mo_trim_23 rfl ?_
      refine q_imul d_Mo_trim_24 ?_
      refine q_aload_n d_Mo_trim_25 rfl ?_
      refine q_gr (by assumption) pc_Mo 2 (by decide) w_fl_Mo_14 rfl (by rfl) d_Mo_trim_26 ?_
      refine q_iload_n d_Mo_trim_29 rfl ?_
      refine q_ial (r) (by assumption) (by omega) (by omega) (by omega) d_Mo_trim_30 ?_
      refine q_topi f1 ?_
      refine q_iadd d_Mo_trim_31 ?_
      refine q_iconst d_Mo_trim_32 rfl ?_
      refine q_isub d_Mo_trim_33 ?_
      refine q_ial (1024 * r + n) (by assumption) (by omega) (by omega) (by omega) d_Mo_trim_34 ?_
      refine q_topi (show _ = mr σ m r n by rw [f4 (m + 1) (by omega) (by omega)]; rfl) ?_
      refine q_if_ne (tgt := 51) (by have := hd n (by omega); omega) d_Mo_trim_35 (by decide) (fun cl => ?_) (fun cl => ?_)
      · refine q_aload_n d_Mo_trim_51 rfl ?_
        refine q_gr (by assumption) pc_Mo 2 (by decide) w_fl_Mo_14 rfl (by rfl) d_Mo_trim_52 ?_
        refine q_iload_n d_Mo_trim_55 rfl ?_
        refine q_ial (r) (by assumption) (by omega) (by omega) (by omega) d_Mo_trim_56 ?_
        refine q_topi f1 ?_
        refine q_if_ne (tgt := 67) (by omega) d_Mo_trim_57 (by decide) (fun c57 => ?_) (fun c57 => absurd c57 (by omega))
        exact q_vret rfl (⟨rfl, ⟨n + 1, ⟨f1, by rw [if_neg (by rw [← f3]; have := dv_top (B := 65536) (by decide) (fun k hk => hd k (by omega)) cl; have := ip_pos (B := 65536) (by decide) n; omega)]; exact f6, by omega, fun k hk => by rw [hmr]; exact hd k (by omega), by rw [hmr]; exact f3⟩, fun _ => by rw [hmr]; exact cl⟩, f4, f5⟩) d_Mo_trim_67
      · refine q_aload_n d_Mo_trim_38 rfl ?_
        refine q_gr (by assumption) pc_Mo 2 (by decide) w_fl_Mo_14 rfl (by rfl) d_Mo_trim_39 ?_
        refine q_iload_n d_Mo_trim_42 rfl ?_
        refine q_dup2 d_Mo_trim_43 rfl rfl ?_
        refine q_ial (r) (by assumption) (by omega) (by omega) (by omega) d_Mo_trim_44 ?_
        refine q_topi f1 ?_
        refine q_iconst d_Mo_trim_45 rfl ?_
        refine q_isub d_Mo_trim_46 ?_
        refine q_ias (r) (by assumption) (by omega) (by omega) (by omega) d_Mo_trim_47 ?_
        refine q_goto (tgt := 7) d_Mo_trim_48 (by decide) ?_
        exact ih (by omega) _ (by rw [q_up_self]; omega) (by rw [dv_s, cl] at f3; simpa using f3) (fun q h6 h7 => by rw [q_up_a _ _ h6]; exact f4 q h6 h7) (fun j hj => ⟨by rw [q_up_k _ _ hj]; exact (f5 j hj).1, by rw [q_up_a _ _ (by omega)]; exact (f5 j hj).2⟩) (by rw [q_up_a _ _ (by omega)]; exact f6)
  refine q_aload_n d_Mo_trim_0 rfl ?_
  refine q_gr (by assumption) pc_Mo 2 (by decide) w_fl_Mo_14 rfl (by rfl) d_Mo_trim_1 ?_
  refine q_iload_n d_Mo_trim_4 rfl ?_
  refine q_iload_n d_Mo_trim_5 rfl ?_
  refine q_ias (r) (by assumption) (by omega) (by omega) (by omega) d_Mo_trim_6 ?_
  exact loop N (Nat.le_refl N) _ (q_up_self _ _ _ _) rfl (fun q h6 h7 => q_up_a _ _ h6) (fun j hj => ⟨q_up_k _ _ hj, by rw [q_up_a _ _ (by omega)]⟩) (by rw [q_up_a _ _ (by omega)])
set_option maxHeartbeats 4000000 in
set_option maxRecDepth 100000 in
theorem c_Mo_takes (l : Launch) (K : pw_K) {L : q_L} {σ : q_S} {m r N : Nat} {s : Int} (hL : mL L m) (hr : r < 160) (hN : N ≤ 1024) (hd : ∀ k, k < N → 0 ≤ σ (m + 9) k ∧ σ (m + 9) k < 65536) : q_C l K L y_Mo_takes b_Mo_takes 5 none 1 [.ref m, vi r, vi N, vi s] σ (fun v σ' => v = none ∧ (∃ n', rU σ' m r n' (dv 65536 (σ (m + 9)) N) (if dv 65536 (σ (m + 9)) N = 0 then 0 else s) ∧ (0 < n' → mr σ' m r (n' - 1) ≠ 0)) ∧ rO σ σ' m ∧ σ' (m + 9) = σ (m + 9) ∧ ∀ j, j ≠ r → rE σ σ' m j) := by
  obtain ⟨hM0, hM1, hM2, hM3, hM4, hM5, hM6, hM7, hM8, hM9⟩ := hL
  refine q_start [some (.ref m), some (vi r), some (vi N), some (vi s), none] (by decide) (Nat.le_of_ble_eq_true rfl) (fun q h => h) ?_
  have loop : ∀ (d k : Nat), k + d = N → ∀ (σ1 : q_S), (∀ q, q ≠ m + 1 → σ1 q = σ q) → (∀ j, j < k → mr σ1 m r j = σ (m + 9) j) → (∀ i j, i ≠ r → j < 1024 → mr σ1 m i j = mr σ m i j) → ∀ t : Int, t = k →  q_T l K L R_Mo b_Mo_takes 5 none 1 (fun v σ' => v = none ∧ (∃ n', rU σ' m r n' (dv 65536 (σ (m + 9)) N) (if dv 65536 (σ (m + 9)) N = 0 then 0 else s) ∧ (0 < n' → mr σ' m r (n' - 1) ≠ 0)) ∧ rO σ σ' m ∧ σ' (m + 9) = σ (m + 9) ∧ ∀ j, j ≠ r → rE σ σ' m j) 3 [some (.ref m), some (vi r), some (vi N), some (vi s), some (vi t)] [] σ1 := by
    intro d
    induction d with
    | zero =>
      intro k hk σ1 f1 f2 f3 t ht
      refine q_iload d_Mo_takes_3 rfl ?_
      refine q_iload_n d_Mo_takes_5 rfl ?_
      refine q_icmp_ge (tgt := 35) (by omega) (by omega) d_Mo_takes_6 (by decide) (fun c6 => ?_) (fun c6 => absurd c6 (by omega))
      refine q_aload_n d_Mo_takes_35 rfl ?_
      refine q_gr (by assumption) pc_Mo 3 (by decide) w_fl_Mo_17 rfl (by rfl) d_Mo_takes_36 ?_
      refine q_iload_n d_Mo_takes_39 rfl ?_
      refine q_iload_n d_Mo_takes_40 rfl ?_
      refine q_ias (r) (by assumption) (by omega) (by omega) (by omega) d_Mo_takes_41 ?_
      refine q_aload_n d_Mo_takes_42 rfl ?_
      refine q_iload_n d_Mo_takes_43 rfl ?_
      refine q_iload_n d_Mo_takes_44 rfl ?_
      obtain rfl : k = N := by omega
      have hmr : ∀ i j, mr (q_up σ1 (m + 3) r s) m i j = mr σ1 m i j := fun i j => by show q_up σ1 (m + 3) r s (m + 1) _ = σ1 (m + 1) _; rw [q_up_a _ _ (by omega)]
      have hdv : dv 65536 (mr (q_up σ1 (m + 3) r s) m r) k = dv 65536 (σ (m + 9)) k := dv_congr (fun j hj => by rw [hmr]; exact f2 j hj)
      refine q_callV (As := [vi r, vi k]) (c_Mo_trim l K (N := k) ⟨hM0, hM1, hM2, hM3, hM4, hM5, hM6, hM7, hM8, hM9⟩ hr hN (fun j hj => by rw [hmr, f2 j hj]; exact hd j hj)) w_cd_Mo_trim w_ini_Mo w_ml_Mo_57 w_im_Mo_trim w_se_Mo_trim (by assumption) rfl hd_Mo_trim rfl (Nat.le_of_ble_eq_true rfl) d_Mo_takes_45 (by decide) (by decide) (fun v σ2 hp => ?_)
      obtain ⟨rfl, ⟨n2, k1, k2⟩, k3, k4⟩ := hp
      exact q_vret rfl (⟨rfl, ⟨n2, by rw [hdv, q_up_self] at k1; exact k1, k2⟩, fun q h5 h6 h7 h8 => by rw [k3 q h6 h7, q_up_a _ _ h7, f1 q h5], by rw [k3 _ (by omega) (by omega), q_up_a _ _ (by omega), f1 _ (by omega)], fun j hj => ⟨fun i hi => by show σ2 (m + 1) _ = _; rw [k3 _ (by omega) (by omega)]; show mr (q_up σ1 (m + 3) r s) m j i = _; rw [hmr]; exact f3 j i hj hi, by rw [(k4 j hj).1, q_up_a _ _ (by omega), f1 _ (by omega)], by rw [(k4 j hj).2, q_up_k _ _ hj, f1 _ (by omega)]⟩⟩) d_Mo_takes_48
    | succ d ih =>
      intro k hk σ1 f1 f2 f3 t ht
      refine q_iload d_Mo_takes_3 rfl ?_
      refine q_iload_n d_Mo_takes_5 rfl ?_
      refine q_icmp_ge (tgt := 35) (by omega) (by omega) d_Mo_takes_6 (by decide) (fun c6 => absurd c6 (by omega)) (fun c6 => ?_)
      refine q_aload_n d_Mo_takes_9 rfl ?_
      refine q_gr (by assumption) pc_Mo 1 (by decide) w_fl_Mo_8 rfl (by rfl) d_Mo_takes_10 ?_
      refine q_sipush d_Mo_takes_13 (by decide) ?_
      refine q_iload_n d_Mo_takes_16 rfl ?_
      refine q_imul d_Mo_takes_17 ?_
      refine q_iload d_Mo_takes_18 rfl ?_
      refine q_iadd d_Mo_takes_20 ?_
      refine q_aload_n d_Mo_takes_21 rfl ?_
      refine q_gr (by assumption) pc_Mo 10 (by decide) w_fl_Mo_36 rfl (by rfl) d_Mo_takes_22 ?_
      refine q_iload d_Mo_takes_25 rfl ?_
      refine q_ial (k) (by assumption) (by omega) (by omega) (by omega) d_Mo_takes_27 ?_
      refine q_topi (show _ = σ (m + 9) k by rw [f1 (m + 9) (by omega)]) ?_
      refine q_ias (1024 * r + k) (by assumption) (by omega) (by omega) (by omega) d_Mo_takes_28 ?_
      refine q_iinc_4 d_Mo_takes_29 (by decide) rfl ?_
      refine q_goto (tgt := 3) d_Mo_takes_32 (by decide) ?_
      exact ih (k + 1) (by omega) _ (fun q h6 => by rw [q_up_a _ _ h6]; exact f1 q h6) (fun j hj => if e : j = k then by subst e; exact mr_up _ _ _ _ _ else (mr_ne _ _ (by omega)).trans (f2 j (by omega))) (fun i j h6 h7 => (mr_ne _ _ (by omega)).trans (f3 i j h6 h7)) _ (by omega)
  refine q_iconst d_Mo_takes_0 rfl ?_
  refine q_ist_4 d_Mo_takes_1 (by decide) rfl ?_
  exact loop N 0 (by omega) σ (fun q _ => rfl) (fun j hj => by omega) (fun i j _ _ => rfl) _ rfl
set_option maxHeartbeats 4000000 in
set_option maxRecDepth 100000 in
theorem c_Mo_copy (l : Launch) (K : pw_K) {L : q_L} {σ : q_S} {m r i : Nat} {x : Int} (hL : mL L m) (hr : r < 160) (hi : i < 160) (hx : rV σ m i x) : q_C l K L y_Mo_copy b_Mo_copy 4 none 0 [.ref m, vi r, vi i] σ (fun v σ' => v = none ∧ rV σ' m r x ∧ rO σ σ' m ∧ σ' (m + 9) = σ (m + 9) ∧ ∀ j, j ≠ r → rE σ σ' m j) := by
  obtain ⟨hM0, hM1, hM2, hM3, hM4, hM5, hM6, hM7, hM8, hM9⟩ := hL
  obtain ⟨n, ⟨h1, h2, h3, h4, h5⟩, ht0⟩ := hx
  refine q_start [some (.ref m), some (vi r), some (vi i), none] (by decide) (Nat.le_of_ble_eq_true rfl) (fun q h => h) ?_
  have loop : ∀ (d k : Nat), k + d = n → ∀ (σ1 : q_S), (∀ q, q ≠ m + 1 → σ1 q = σ q) → (∀ j, j < k → mr σ1 m r j = mr σ m i j) → (∀ a j, a ≠ r → j < 1024 → mr σ1 m a j = mr σ m a j) → (∀ j, k ≤ j → mr σ1 m r j = mr σ m r j) → ∀ t : Int, t = k →  q_T l K L R_Mo b_Mo_copy 4 none 0 (fun v σ' => v = none ∧ rV σ' m r x ∧ rO σ σ' m ∧ σ' (m + 9) = σ (m + 9) ∧ ∀ j, j ≠ r → rE σ σ' m j) 2 [some (.ref m), some (vi r), some (vi i), some (vi t)] [] σ1 := by
    intro d
    induction d with
    | zero =>
      intro k hk σ1 f1 f2 f3 f4 t ht
      refine q_iload_n d_Mo_copy_2 rfl ?_
      refine q_aload_n d_Mo_copy_3 rfl ?_
      refine q_gr (by assumption) pc_Mo 2 (by decide) w_fl_Mo_14 rfl (by rfl) d_Mo_copy_4 ?_
      refine q_iload_n d_Mo_copy_7 rfl ?_
      refine q_ial (i) (by assumption) (by omega) (by omega) (by omega) d_Mo_copy_8 ?_
      refine q_topi (show _ = (n : Int) by rw [f1 (m + 2) (by omega)]; exact h1) ?_
      refine q_icmp_ge (tgt := 42) (by omega) (by omega) d_Mo_copy_9 (by decide) (fun c9 => ?_) (fun c9 => absurd c9 (by omega))
      refine q_aload_n d_Mo_copy_42 rfl ?_
      refine q_gr (by assumption) pc_Mo 2 (by decide) w_fl_Mo_14 rfl (by rfl) d_Mo_copy_43 ?_
      refine q_iload_n d_Mo_copy_46 rfl ?_
      refine q_aload_n d_Mo_copy_47 rfl ?_
      refine q_gr (by assumption) pc_Mo 2 (by decide) w_fl_Mo_14 rfl (by rfl) d_Mo_copy_48 ?_
      refine q_iload_n d_Mo_copy_51 rfl ?_
      refine q_ial (i) (by assumption) (by omega) (by omega) (by omega) d_Mo_copy_52 ?_
      refine q_topi (show _ = (n : Int) by rw [f1 (m + 2) (by omega)]; exact h1) ?_
      refine q_ias (r) (by assumption) (by omega) (by omega) (by omega) d_Mo_copy_53 ?_
      refine q_aload_n d_Mo_copy_54 rfl ?_
      refine q_gr (by assumption) pc_Mo 3 (by decide) w_fl_Mo_17 rfl (by rfl) d_Mo_copy_55 ?_
      refine q_iload_n d_Mo_copy_58 rfl ?_
      refine q_aload_n d_Mo_copy_59 rfl ?_
      refine q_gr (by assumption) pc_Mo 3 (by decide) w_fl_Mo_17 rfl (by rfl) d_Mo_copy_60 ?_
      refine q_iload_n d_Mo_copy_63 rfl ?_
      refine q_ial (i) (by assumption) (by omega) (by omega) (by omega) d_Mo_copy_64 ?_
      refine q_topi (show _ = x.sign by rw [q_up_a _ _ (by omega), f1 (m + 3) (by omega)]; exact h2) ?_
      refine q_ias (r) (by assumption) (by omega) (by omega) (by omega) d_Mo_copy_65 ?_
      obtain rfl : k = n := by omega
      have hmr : ∀ a j, mr (q_up (q_up σ1 (m + 2) r k) (m + 3) r x.sign) m a j = mr σ1 m a j := fun a j => by show q_up (q_up σ1 (m + 2) r k) (m + 3) r x.sign (m + 1) _ = σ1 (m + 1) _; rw [q_up_a _ _ (by omega), q_up_a _ _ (by omega)]
      exact q_vret rfl (⟨rfl, ⟨k, ⟨by rw [q_up_a _ _ (by omega), q_up_self], q_up_self _ _ _ _, h3, fun j hj => by rw [hmr, f2 j hj]; exact h4 j hj, by rw [← h5]; exact dv_congr (fun j hj => by rw [hmr]; exact f2 j hj)⟩, fun h0 => by rw [hmr, f2 _ (by omega)]; exact ht0 h0⟩, fun q h6 h7 h8 h9 => by rw [q_up_a _ _ h8, q_up_a _ _ h7, f1 q h6], by rw [q_up_a _ _ (by omega), q_up_a _ _ (by omega), f1 _ (by omega)], fun j hj => ⟨fun u hu => by rw [hmr]; exact f3 j u hj hu, by rw [q_up_a _ _ (by omega), q_up_k _ _ hj, f1 _ (by omega)], by rw [q_up_k _ _ hj, q_up_a _ _ (by omega), f1 _ (by omega)]⟩⟩) d_Mo_copy_66
    | succ d ih =>
      intro k hk σ1 f1 f2 f3 f4 t ht
      have hsrc : ∀ j, j < 1024 → mr σ1 m i j = mr σ m i j := fun j hj => by
        by_cases e : i = r
        · subst e
          by_cases e2 : j < k
          · exact f2 j e2
          · exact f4 j (by omega)
        · exact f3 i j e hj
      refine q_iload_n d_Mo_copy_2 rfl ?_
      refine q_aload_n d_Mo_copy_3 rfl ?_
      refine q_gr (by assumption) pc_Mo 2 (by decide) w_fl_Mo_14 rfl (by rfl) d_Mo_copy_4 ?_
      refine q_iload_n d_Mo_copy_7 rfl ?_
      refine q_ial (i) (by assumption) (by omega) (by omega) (by omega) d_Mo_copy_8 ?_
      refine q_topi (show _ = (n : Int) by rw [f1 (m + 2) (by omega)]; exact h1) ?_
      refine q_icmp_ge (tgt := 42) (by omega) (by omega) d_Mo_copy_9 (by decide) (fun c9 => absurd c9 (by omega)) (fun c9 => ?_)
      refine q_aload_n d_Mo_copy_12 rfl ?_
      refine q_gr (by assumption) pc_Mo 1 (by decide) w_fl_Mo_8 rfl (by rfl) d_Mo_copy_13 ?_
      refine q_sipush d_Mo_copy_16 (by decide) ?_
      refine q_iload_n d_Mo_copy_19 rfl ?_
      refine q_imul d_Mo_copy_20 ?_
      refine q_iload_n d_Mo_copy_21 rfl ?_
      refine q_iadd d_Mo_copy_22 ?_
      refine q_aload_n d_Mo_copy_23 rfl ?_
      refine q_gr (by assumption) pc_Mo 1 (by decide) w_fl_Mo_8 rfl (by rfl) d_Mo_copy_24 ?_
      refine q_sipush d_Mo_copy_27 (by decide) ?_
      refine q_iload_n d_Mo_copy_30 rfl ?_
      refine q_imul d_Mo_copy_31 ?_
      refine q_iload_n d_Mo_copy_32 rfl ?_
      refine q_iadd d_Mo_copy_33 ?_
      refine q_ial (1024 * i + k) (by assumption) (by omega) (by omega) (by omega) d_Mo_copy_34 ?_
      refine q_topi (show _ = mr σ m i k from hsrc k (by omega)) ?_
      refine q_ias (1024 * r + k) (by assumption) (by omega) (by omega) (by omega) d_Mo_copy_35 ?_
      refine q_iinc_3 d_Mo_copy_36 (by decide) rfl ?_
      refine q_goto (tgt := 2) d_Mo_copy_39 (by decide) ?_
      exact ih (k + 1) (by omega) _ (fun q h6 => by rw [q_up_a _ _ h6]; exact f1 q h6) (fun j hj => if e : j = k then by subst e; exact mr_up _ _ _ _ _ else (mr_ne _ _ (by omega)).trans (f2 j (by omega))) (fun a j h6 h7 => (mr_ne _ _ (by omega)).trans (f3 a j h6 h7)) (fun j hj => (mr_ne _ _ (by omega)).trans (f4 j (by omega))) _ (by omega)
  refine q_iconst d_Mo_copy_0 rfl ?_
  refine q_ist_n_3 d_Mo_copy_1 (by decide) rfl ?_
  exact loop n 0 (by omega) σ (fun q _ => rfl) (fun j hj => by omega) (fun i j _ _ => rfl) (fun j _ => rfl) _ rfl
