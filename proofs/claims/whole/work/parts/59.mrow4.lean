/-! THE REFERENCE: trimPoly, copyPoly, parts, compareRows -/
theorem rV.sgn {σ : q_S} {m r : Nat} {x : Int} (h : rV σ m r x) : σ (m + 3) r = x.sign := by obtain ⟨n, hu, -⟩ := h; exact hu.2.1
set_option maxHeartbeats 4000000 in
set_option maxRecDepth 100000 in
theorem q_Mo_trimPoly (l : Launch) (K : pw_K) {L : q_L} {σ : q_S} {m p N : Nat} {f : Int} {P : Nat → Int} (hL : mL L m) (hp : p < 10) (hpN : N ≤ 9) (hf : f = (N : Int) - 1) (hP : ∀ k, k < N → rV σ m (9 * p + k) (P k)) : q_C l K L y_Mo_trimPoly b_Mo_trimPoly 3 none 0 [.ref m, vi p, vi f] σ (fun v σ' => v = none ∧ σ' (m + 4) p = (top P N : Int) - 1 ∧ (∀ j, j ≠ p → σ' (m + 4) j = σ (m + 4) j) ∧ ∀ q, q ≠ m + 4 → σ' q = σ q) := by
  obtain ⟨hM0, hM1, hM2, hM3, hM4, hM5, hM6, hM7, hM8, hM9⟩ := hL
  refine q_start [some (.ref m), some (vi p), some (vi f)] (by decide) (Nat.le_of_ble_eq_true rfl) (fun q h => h) ?_
  have loop : ∀ (k : Nat), k ≤ N → ∀ (σ1 : q_S), σ1 (m + 4) p = (k : Int) - 1 → top P k = top P N → (∀ j, j ≠ p → σ1 (m + 4) j = σ (m + 4) j) → (∀ q, q ≠ m + 4 → σ1 q = σ q) → q_T l K L R_Mo b_Mo_trimPoly 3 none 0 (fun v σ' => v = none ∧ σ' (m + 4) p = (top P N : Int) - 1 ∧ (∀ j, j ≠ p → σ' (m + 4) j = σ (m + 4) j) ∧ ∀ q, q ≠ m + 4 → σ' q = σ q) 7 [some (.ref m), some (vi p), some (vi f)] [] σ1 := by
    intro k
    induction k with
    | zero =>
      intro hk σ1 f1 f2 f3 f4
      refine q_aload_n d_Mo_trimPoly_7 rfl ?_
      refine q_gr (by assumption) pc_Mo 4 (by decide) w_fl_Mo_20 rfl (by rfl) d_Mo_trimPoly_8 ?_
      refine q_iload_n d_Mo_trimPoly_11 rfl ?_
      refine q_ial (p) (by assumption) (by omega) (by omega) (by omega) d_Mo_trimPoly_12 ?_
      refine q_topi f1 ?_
      refine q_if_lt (tgt := 48) (by omega) d_Mo_trimPoly_13 (by decide) (fun c13 => ?_) (fun c13 => absurd c13 (by omega))
      exact q_vret rfl (⟨rfl, by rw [f1, ← f2]; rfl, f3, f4⟩) d_Mo_trimPoly_48
    | succ k ih =>
      intro hk σ1 f1 f2 f3 f4
      refine q_aload_n d_Mo_trimPoly_7 rfl ?_
      refine q_gr (by assumption) pc_Mo 4 (by decide) w_fl_Mo_20 rfl (by rfl) d_Mo_trimPoly_8 ?_
      refine q_iload_n d_Mo_trimPoly_11 rfl ?_
      refine q_ial (p) (by assumption) (by omega) (by omega) (by omega) d_Mo_trimPoly_12 ?_
      refine q_topi f1 ?_
      refine q_if_lt (tgt := 48) (by omega) d_Mo_trimPoly_13 (by decide) (fun c13 => absurd c13 (by omega)) (fun c13 => ?_)
      refine q_aload_n d_Mo_trimPoly_16 rfl ?_
      refine q_gr (by assumption) pc_Mo 3 (by decide) w_fl_Mo_17 rfl (by rfl) d_Mo_trimPoly_17 ?_
      refine q_bipush d_Mo_trimPoly_20 (by decide) ?_
      refine q_iload_n d_Mo_trimPoly_22 rfl ?_
      refine q_imul d_Mo_trimPoly_23 ?_
      refine q_aload_n d_Mo_trimPoly_24 rfl ?_
      refine q_gr (by assumption) pc_Mo 4 (by decide) w_fl_Mo_20 rfl (by rfl) d_Mo_trimPoly_25 ?_
      refine q_iload_n d_Mo_trimPoly_28 rfl ?_
      refine q_ial (p) (by assumption) (by omega) (by omega) (by omega) d_Mo_trimPoly_29 ?_
      refine q_topi f1 ?_
      refine q_iadd d_Mo_trimPoly_30 ?_
      refine q_ial (9 * p + k) (by assumption) (by omega) (by omega) (by omega) d_Mo_trimPoly_31 ?_
      refine q_topi (show _ = (P k).sign by rw [f4 _ (by omega)]; exact (hP k (by omega)).sgn) ?_
      refine q_if_ne (tgt := 48) (by have := sg3 (P k); omega) d_Mo_trimPoly_32 (by decide) (fun cz => ?_) (fun cz => ?_)
      · exact q_vret rfl (⟨rfl, by rw [f1, ← f2, show top P (k + 1) = k + 1 by rw [top, if_neg (fun h => cz (by rw [h]; rfl))]], f3, f4⟩) d_Mo_trimPoly_48
      · refine q_aload_n d_Mo_trimPoly_35 rfl ?_
        refine q_gr (by assumption) pc_Mo 4 (by decide) w_fl_Mo_20 rfl (by rfl) d_Mo_trimPoly_36 ?_
        refine q_iload_n d_Mo_trimPoly_39 rfl ?_
        refine q_dup2 d_Mo_trimPoly_40 rfl rfl ?_
        refine q_ial (p) (by assumption) (by omega) (by omega) (by omega) d_Mo_trimPoly_41 ?_
        refine q_topi f1 ?_
        refine q_iconst d_Mo_trimPoly_42 rfl ?_
        refine q_isub d_Mo_trimPoly_43 ?_
        refine q_ias (p) (by assumption) (by omega) (by omega) (by omega) d_Mo_trimPoly_44 ?_
        refine q_goto (tgt := 7) d_Mo_trimPoly_45 (by decide) ?_
        exact ih (by omega) _ (by rw [q_up_self]; omega) (by rw [← f2, show top P (k + 1) = top P k by rw [top, if_pos (sg0 cz)]]) (fun j hj => by rw [q_up_k _ _ hj]; exact f3 j hj) (fun q hq => by rw [q_up_a _ _ hq]; exact f4 q hq)
  refine q_aload_n d_Mo_trimPoly_0 rfl ?_
  refine q_gr (by assumption) pc_Mo 4 (by decide) w_fl_Mo_20 rfl (by rfl) d_Mo_trimPoly_1 ?_
  refine q_iload_n d_Mo_trimPoly_4 rfl ?_
  refine q_iload_n d_Mo_trimPoly_5 rfl ?_
  refine q_ias (p) (by assumption) (by omega) (by omega) (by omega) d_Mo_trimPoly_6 ?_
  exact loop N (Nat.le_refl N) _ (by rw [q_up_self]; exact hf) rfl (fun j hj => q_up_k _ _ hj) (fun q hq => q_up_a _ _ hq)
set_option maxHeartbeats 4000000 in
set_option maxRecDepth 100000 in
theorem c_Mo_copyPoly (l : Launch) (K : pw_K) {L : q_L} {σ : q_S} {m p i n : Nat} {P : Nat → Int} (hL : mL L m) (hp : p < 10) (hi : i < 10) (hpi : p ≠ i) (hn : n ≤ 9) (hd : σ (m + 4) i = (n : Int) - 1) (hP : ∀ k, k < n → rV σ m (9 * i + k) (P k)) : q_C l K L y_Mo_copyPoly b_Mo_copyPoly 4 none 1 [.ref m, vi p, vi i] σ (fun v σ' => v = none ∧ σ' (m + 4) p = (n : Int) - 1 ∧ (∀ k, k < n → rV σ' m (9 * p + k) (P k)) ∧ (∀ r, (r < 9 * p ∨ 9 * p + n ≤ r) → rE σ σ' m r) ∧ (∀ j, j ≠ p → σ' (m + 4) j = σ (m + 4) j) ∧ ∀ q, q ≠ m + 1 → q ≠ m + 2 → q ≠ m + 3 → q ≠ m + 4 → σ' q = σ q) := by
  obtain ⟨hM0, hM1, hM2, hM3, hM4, hM5, hM6, hM7, hM8, hM9⟩ := hL
  refine q_start [some (.ref m), some (vi p), some (vi i), none] (by decide) (Nat.le_of_ble_eq_true rfl) (fun q h => h) ?_
  have loop : ∀ (d k : Nat), k + d = n → ∀ (σ1 : q_S), (∀ u, u < k → rV σ1 m (9 * p + u) (P u)) → (∀ r, (r < 9 * p ∨ 9 * p + k ≤ r) → rE σ σ1 m r) → (∀ q, q ≠ m + 1 → q ≠ m + 2 → q ≠ m + 3 → σ1 q = σ q) → ∀ t : Int, t = k → q_T l K L R_Mo b_Mo_copyPoly 4 none 1 (fun v σ' => v = none ∧ σ' (m + 4) p = (n : Int) - 1 ∧ (∀ k, k < n → rV σ' m (9 * p + k) (P k)) ∧ (∀ r, (r < 9 * p ∨ 9 * p + n ≤ r) → rE σ σ' m r) ∧ (∀ j, j ≠ p → σ' (m + 4) j = σ (m + 4) j) ∧ ∀ q, q ≠ m + 1 → q ≠ m + 2 → q ≠ m + 3 → q ≠ m + 4 → σ' q = σ q) 2 [some (.ref m), some (vi p), some (vi i), some (vi t)] [] σ1 := by
    intro d
    induction d with
    | zero =>
      intro k hk σ1 f1 f2 f3 t ht
      refine q_iload_n d_Mo_copyPoly_2 rfl ?_
      refine q_aload_n d_Mo_copyPoly_3 rfl ?_
      refine q_gr (by assumption) pc_Mo 4 (by decide) w_fl_Mo_20 rfl (by rfl) d_Mo_copyPoly_4 ?_
      refine q_iload_n d_Mo_copyPoly_7 rfl ?_
      refine q_ial (i) (by assumption) (by omega) (by omega) (by omega) d_Mo_copyPoly_8 ?_
      refine q_topi (show _ = (n : Int) - 1 by rw [f3 _ (by omega) (by omega) (by omega)]; exact hd) ?_
      refine q_icmp_gt (tgt := 34) (by omega) (by omega) d_Mo_copyPoly_9 (by decide) (fun c9 => ?_) (fun c9 => absurd c9 (by omega))
      refine q_aload_n d_Mo_copyPoly_34 rfl ?_
      refine q_gr (by assumption) pc_Mo 4 (by decide) w_fl_Mo_20 rfl (by rfl) d_Mo_copyPoly_35 ?_
      refine q_iload_n d_Mo_copyPoly_38 rfl ?_
      refine q_aload_n d_Mo_copyPoly_39 rfl ?_
      refine q_gr (by assumption) pc_Mo 4 (by decide) w_fl_Mo_20 rfl (by rfl) d_Mo_copyPoly_40 ?_
      refine q_iload_n d_Mo_copyPoly_43 rfl ?_
      refine q_ial (i) (by assumption) (by omega) (by omega) (by omega) d_Mo_copyPoly_44 ?_
      refine q_topi (show _ = (n : Int) - 1 by rw [f3 _ (by omega) (by omega) (by omega)]; exact hd) ?_
      refine q_ias (p) (by assumption) (by omega) (by omega) (by omega) d_Mo_copyPoly_45 ?_
      have he : ∀ r, rE σ1 (q_up σ1 (m + 4) p ((n : Int) - 1)) m r := fun r => ⟨fun u _ => mr_o _ _ (by omega), by rw [q_up_a _ _ (by omega)], by rw [q_up_a _ _ (by omega)]⟩
      exact q_vret rfl (⟨rfl, q_up_self _ _ _ _, fun u hu => (f1 u (by omega)).mv (he _), fun r hr => (f2 r (by omega)).trans (he r), fun j hj => by rw [q_up_k _ _ hj, f3 _ (by omega) (by omega) (by omega)], fun q h1 h2 h3 h4 => by rw [q_up_a _ _ h4]; exact f3 q h1 h2 h3⟩) d_Mo_copyPoly_46
    | succ d ih =>
      intro k hk σ1 f1 f2 f3 t ht
      refine q_iload_n d_Mo_copyPoly_2 rfl ?_
      refine q_aload_n d_Mo_copyPoly_3 rfl ?_
      refine q_gr (by assumption) pc_Mo 4 (by decide) w_fl_Mo_20 rfl (by rfl) d_Mo_copyPoly_4 ?_
      refine q_iload_n d_Mo_copyPoly_7 rfl ?_
      refine q_ial (i) (by assumption) (by omega) (by omega) (by omega) d_Mo_copyPoly_8 ?_
      refine q_topi (show _ = (n : Int) - 1 by rw [f3 _ (by omega) (by omega) (by omega)]; exact hd) ?_
      refine q_icmp_gt (tgt := 34) (by omega) (by omega) d_Mo_copyPoly_9 (by decide) (fun c9 => absurd c9 (by omega)) (fun c9 => ?_)
      refine q_aload_n d_Mo_copyPoly_12 rfl ?_
      refine q_bipush d_Mo_copyPoly_13 (by decide) ?_
      refine q_iload_n d_Mo_copyPoly_15 rfl ?_
      refine q_imul d_Mo_copyPoly_16 ?_
      refine q_iload_n d_Mo_copyPoly_17 rfl ?_
      refine q_iadd d_Mo_copyPoly_18 ?_
      refine q_topi (show _ = ((9 * p + k : Nat) : Int) by omega) ?_
      refine q_bipush d_Mo_copyPoly_19 (by decide) ?_
      refine q_iload_n d_Mo_copyPoly_21 rfl ?_
      refine q_imul d_Mo_copyPoly_22 ?_
      refine q_iload_n d_Mo_copyPoly_23 rfl ?_
      refine q_iadd d_Mo_copyPoly_24 ?_
      refine q_topi (show _ = ((9 * i + k : Nat) : Int) by omega) ?_
      refine q_callV (As := [vi ((9 * p + k : Nat) : Int), vi ((9 * i + k : Nat) : Int)]) (c_Mo_copy l K (r := 9 * p + k) (i := 9 * i + k) ⟨hM0, hM1, hM2, hM3, hM4, hM5, hM6, hM7, hM8, hM9⟩ (by omega) (by omega) ((hP k (by omega)).mv (f2 _ (by omega)))) w_cd_Mo_copy w_ini_Mo w_ml_Mo_69 w_im_Mo_copy w_se_Mo_copy (by assumption) rfl hd_Mo_copy rfl (Nat.le_of_ble_eq_true rfl) d_Mo_copyPoly_25 (by decide) (by decide) (fun v σ2 hp => ?_)
      obtain ⟨rfl, k1, k2, k3, k4⟩ := hp
      refine q_iinc_3 d_Mo_copyPoly_28 (by decide) rfl ?_
      refine q_goto (tgt := 2) d_Mo_copyPoly_31 (by decide) ?_
      exact ih (k + 1) (by omega) σ2 (fun u hu => if e : u = k then by subst e; exact k1 else (f1 u (by omega)).mv (k4 _ (by omega))) (fun r hr => (f2 r (by omega)).trans (k4 r (by omega))) (fun q h1 h2 h3 => if e : q = m + 9 then by subst e; rw [k3]; exact f3 _ h1 h2 h3 else by rw [k2 q h1 h2 h3 e]; exact f3 q h1 h2 h3) _ (by omega)
  refine q_iconst d_Mo_copyPoly_0 rfl ?_
  refine q_ist_n_3 d_Mo_copyPoly_1 (by decide) rfl ?_
  exact loop n 0 (by omega) σ (fun u hu => by omega) (fun r _ => rE.rfl) (fun q _ _ _ => rfl) _ rfl
theorem cr_lt {x y : Int} (h : x.sign < y.sign) : (x - y).sign = -1 := by have := sg3 x; have := sg3 y; exact Int.sign_eq_neg_one_of_neg (by omega)
theorem cr_gt {x y : Int} (h1 : ¬ x.sign = y.sign) (h : y.sign ≤ x.sign) : (x - y).sign = 1 := by have := sg3 x; have := sg3 y; exact Int.sign_eq_one_of_pos (by omega)
theorem cr_eq {x y : Int} (h : x.sign = y.sign) : x.sign * ((x.natAbs : Int) - y.natAbs).sign = (x - y).sign := by
  have h1 := sg3 x
  have h2 := sg3 y
  rcases h1 with g | g | g
  · rw [g.2, Int.one_mul, show (x.natAbs : Int) - y.natAbs = x - y by omega]
  · rw [g.2, show x - y = 0 by omega, Int.zero_mul]; rfl
  · rw [g.2, show (x.natAbs : Int) - y.natAbs = -(x - y) by omega, Int.sign_neg]; omega
set_option maxHeartbeats 4000000 in
set_option maxRecDepth 100000 in
theorem c_Mo_compareRows (l : Launch) (K : pw_K) {L : q_L} {σ : q_S} {m i j : Nat} {x y : Int} (hL : mL L m) (hi : i < 160) (hj : j < 160) (hx : rV σ m i x) (hy : rV σ m j y) : q_C l K L y_Mo_compareRows b_Mo_compareRows 3 (some .int) 2 [.ref m, vi i, vi j] σ (fun v σ' => v = some (vi (x - y).sign) ∧ σ' = σ) := by
  obtain ⟨hM0, hM1, hM2, hM3, hM4, hM5, hM6, hM7, hM8, hM9⟩ := hL
  refine q_start [some (.ref m), some (vi i), some (vi j)] (by decide) (Nat.le_of_ble_eq_true rfl) (fun q h => h) ?_
  refine q_aload_n d_Mo_compareRows_0 rfl ?_
  refine q_gr (by assumption) pc_Mo 3 (by decide) w_fl_Mo_17 rfl (by rfl) d_Mo_compareRows_1 ?_
  refine q_iload_n d_Mo_compareRows_4 rfl ?_
  refine q_ial (i) (by assumption) (by omega) (by omega) (by omega) d_Mo_compareRows_5 ?_
  refine q_topi hx.sgn ?_
  refine q_aload_n d_Mo_compareRows_6 rfl ?_
  refine q_gr (by assumption) pc_Mo 3 (by decide) w_fl_Mo_17 rfl (by rfl) d_Mo_compareRows_7 ?_
  refine q_iload_n d_Mo_compareRows_10 rfl ?_
  refine q_ial (j) (by assumption) (by omega) (by omega) (by omega) d_Mo_compareRows_11 ?_
  refine q_topi hy.sgn ?_
  refine q_icmp_eq (tgt := 38) (by have := sg3 x; omega) (by have := sg3 y; omega) d_Mo_compareRows_12 (by decide) (fun ce => ?_) (fun ce => ?_)
  · refine q_aload_n d_Mo_compareRows_38 rfl ?_
    refine q_gr (by assumption) pc_Mo 3 (by decide) w_fl_Mo_17 rfl (by rfl) d_Mo_compareRows_39 ?_
    refine q_iload_n d_Mo_compareRows_42 rfl ?_
    refine q_ial (i) (by assumption) (by omega) (by omega) (by omega) d_Mo_compareRows_43 ?_
    refine q_topi hx.sgn ?_
    refine q_aload_n d_Mo_compareRows_44 rfl ?_
    refine q_iload_n d_Mo_compareRows_45 rfl ?_
    refine q_iload_n d_Mo_compareRows_46 rfl ?_
    refine q_callV (As := [vi i, vi j]) (c_Mo_against l K ⟨hM0, hM1, hM2, hM3, hM4, hM5, hM6, hM7, hM8, hM9⟩ hi hj hx hy) w_cd_Mo_against w_ini_Mo w_ml_Mo_49 w_im_Mo_against w_se_Mo_against (by assumption) rfl hd_Mo_against rfl (Nat.le_of_ble_eq_true rfl) d_Mo_compareRows_47 (by decide) (by decide) (fun v σ9 hp => ?_)
    obtain ⟨rfl, hσ⟩ := hp
    rw [hσ]
    clear hσ σ9
    refine q_imul d_Mo_compareRows_50 ?_
    exact q_iret rfl (⟨by rw [cr_eq ce], rfl⟩) d_Mo_compareRows_51
  · refine q_aload_n d_Mo_compareRows_15 rfl ?_
    refine q_gr (by assumption) pc_Mo 3 (by decide) w_fl_Mo_17 rfl (by rfl) d_Mo_compareRows_16 ?_
    refine q_iload_n d_Mo_compareRows_19 rfl ?_
    refine q_ial (i) (by assumption) (by omega) (by omega) (by omega) d_Mo_compareRows_20 ?_
    refine q_topi hx.sgn ?_
    refine q_aload_n d_Mo_compareRows_21 rfl ?_
    refine q_gr (by assumption) pc_Mo 3 (by decide) w_fl_Mo_17 rfl (by rfl) d_Mo_compareRows_22 ?_
    refine q_iload_n d_Mo_compareRows_25 rfl ?_
    refine q_ial (j) (by assumption) (by omega) (by omega) (by omega) d_Mo_compareRows_26 ?_
    refine q_topi hy.sgn ?_
    refine q_icmp_ge (tgt := 34) (by have := sg3 x; omega) (by have := sg3 y; omega) d_Mo_compareRows_27 (by decide) (fun cg => ?_) (fun cg => ?_)
    · refine q_iconst d_Mo_compareRows_34 rfl ?_
      refine q_goto (tgt := 51) d_Mo_compareRows_35 (by decide) ?_
      exact q_iret rfl (⟨by rw [cr_gt ce cg], rfl⟩) d_Mo_compareRows_51
    · refine q_iconst d_Mo_compareRows_30 rfl ?_
      refine q_goto (tgt := 51) d_Mo_compareRows_31 (by decide) ?_
      exact q_iret rfl (⟨by rw [cr_lt (by omega)], rfl⟩) d_Mo_compareRows_51
set_option maxHeartbeats 4000000 in
set_option maxRecDepth 100000 in
theorem c_Mo_parts (l : Launch) (K : pw_K) {L : q_L} {σ : q_S} {m r : Nat} {x s : Int} (hL : mL L m) (hr : r < 160) (hx : rV σ m r x) (hs : 0 < s ∧ s < 2147483648) : q_C l K L y_Mo_parts b_Mo_parts 8 (some .int) 1 [.ref m, vi r, vi s] σ (fun v σ' => v = some (vi ((x.natAbs : Int) % s)) ∧ rV σ' m r (x.sign * ((x.natAbs : Int) / s)) ∧ rO σ σ' m ∧ σ' (m + 9) = σ (m + 9) ∧ ∀ j, j ≠ r → rE σ σ' m j) := by
  obtain ⟨hM0, hM1, hM2, hM3, hM4, hM5, hM6, hM7, hM8, hM9⟩ := hL
  obtain ⟨n, hu, ht0⟩ := hx
  obtain ⟨h1, h2, h3, h4, h5⟩ := hu
  refine q_start [some (.ref m), some (vi r), some (vi s), none, none, none, none, none] (by decide) (Nat.le_of_ble_eq_true rfl) (fun q h => h) ?_
  have loop : ∀ (k : Nat) (σ1 : q_S) (c : Int), k ≤ n → (∀ q, q ≠ m + 1 → σ1 q = σ q) → (∀ j, j < k → mr σ1 m r j = mr σ m r j) → (∀ i j, i ≠ r → j < 1024 → mr σ1 m i j = mr σ m i j) → (∀ j, j < n → 0 ≤ mr σ1 m r j ∧ mr σ1 m r j < 65536) → dv 65536 (fun j => mr σ1 m r (k + j)) (n - k) * s + c = dv 65536 (fun j => mr σ m r (k + j)) (n - k) → (0 ≤ c ∧ c < s) → ∀ t : Int, t = (k : Int) - 1 →  q_T l K L R_Mo b_Mo_parts 8 (some .int) 1 (fun v σ' => v = some (vi ((x.natAbs : Int) % s)) ∧ rV σ' m r (x.sign * ((x.natAbs : Int) / s)) ∧ rO σ σ' m ∧ σ' (m + 9) = σ (m + 9) ∧ ∀ j, j ≠ r → rE σ σ' m j) 12 [some (.ref m), some (vi r), some (vi s), some (vl c), none, some (vi t), none, none] [] σ1 := by
    intro k
    induction k with
    | zero =>
      intro σ1 c f0 f1 f2 f3 f4 f5 f6 t ht
      refine q_iload d_Mo_parts_12 rfl ?_
      refine q_if_lt (tgt := 64) (by omega) d_Mo_parts_14 (by decide) (fun c14 => ?_) (fun c14 => absurd c14 (by omega))
      refine q_aload_n d_Mo_parts_64 rfl ?_
      refine q_iload_n d_Mo_parts_65 rfl ?_
      refine q_aload_n d_Mo_parts_66 rfl ?_
      refine q_gr (by assumption) pc_Mo 2 (by decide) w_fl_Mo_14 rfl (by rfl) d_Mo_parts_67 ?_
      refine q_iload_n d_Mo_parts_70 rfl ?_
      refine q_ial (r) (by assumption) (by omega) (by omega) (by omega) d_Mo_parts_71 ?_
      refine q_topi (show _ = (n : Int) by rw [f1 _ (by omega)]; exact h1) ?_
      rw [dv_win0, dv_win0, h5] at f5
      obtain ⟨q1, q2⟩ := dm_uniq f5 f6.1 f6.2
      refine q_callV (As := [vi r, vi (n : Int)]) (c_Mo_trim l K (N := n) ⟨hM0, hM1, hM2, hM3, hM4, hM5, hM6, hM7, hM8, hM9⟩ hr h3 f4) w_cd_Mo_trim w_ini_Mo w_ml_Mo_57 w_im_Mo_trim w_se_Mo_trim (by assumption) rfl hd_Mo_trim rfl (Nat.le_of_ble_eq_true rfl) d_Mo_parts_72 (by decide) (by decide) (fun v σ2 hp => ?_)
      obtain ⟨rfl, ⟨n2, k1, k2⟩, k3, k4⟩ := hp
      rw [q1, f1 _ (by omega), h2] at k1
      refine q_lload_n d_Mo_parts_75 rfl ?_
      refine q_l2i d_Mo_parts_76 ?_
      exact q_iret rfl (⟨by rw [q2], k1.val k2 (dm_abs hs.1) (fun h => dm_sgn hs.1 h), fun q h6 h7 h8 h9 => by rw [k3 q h7 h8]; exact f1 q h6, by rw [k3 _ (by omega) (by omega)]; exact f1 _ (by omega), fun j hj => ⟨fun u hu => by show σ2 (m + 1) _ = _; rw [k3 _ (by omega) (by omega)]; exact f3 j u hj hu, by rw [(k4 j hj).1, f1 _ (by omega)], by rw [(k4 j hj).2, f1 _ (by omega)]⟩⟩) d_Mo_parts_77
    | succ k ih =>
      intro σ1 c f0 f1 f2 f3 f4 f5 f6 t ht
      refine q_iload d_Mo_parts_12 rfl ?_
      refine q_if_lt (tgt := 64) (by omega) d_Mo_parts_14 (by decide) (fun c14 => absurd c14 (by omega)) (fun c14 => ?_)
      have r1 := h4 k (by omega)
      have r2 : 0 ≤ c * 65536 + mr σ m r k ∧ c * 65536 + mr σ m r k < s * 65536 := by omega
      have r3 : (c * 65536 + mr σ m r k) / s < 65536 := Int.ediv_lt_of_lt_mul (by omega) (by omega)
      have r4 : 0 ≤ (c * 65536 + mr σ m r k) / s := Int.ediv_nonneg r2.1 (by omega)
      have r5 := Int.emod_nonneg (c * 65536 + mr σ m r k) (show s ≠ 0 by omega)
      have r6 := Int.emod_lt_of_pos (c * 65536 + mr σ m r k) (show 0 < s by omega)
      refine q_lload_n d_Mo_parts_17 rfl ?_
      refine q_ldc2 (z := 65536) w_kl_Mo_43 (by decide) d_Mo_parts_18 ?_
      refine q_lmul d_Mo_parts_21 ?_
      refine q_aload_n d_Mo_parts_22 rfl ?_
      refine q_iload_n d_Mo_parts_23 rfl ?_
      refine q_iload d_Mo_parts_24 rfl ?_
      refine q_callV (As := [vi r, vi t]) (by rw [show t = ((k : Nat) : Int) by omega]; exact c_Mo_at l K (r := r) (n := n) k ⟨hM0, hM1, hM2, hM3, hM4, hM5, hM6, hM7, hM8, hM9⟩ hr (by rw [f1 _ (by omega)]; exact h1) h3 (by omega)) w_cd_Mo_at w_ini_Mo w_ml_Mo_45 w_im_Mo_at w_se_Mo_at (by assumption) rfl hd_Mo_at rfl (Nat.le_of_ble_eq_true rfl) d_Mo_parts_26 (by decide) (by decide) (fun v σ9 hp => ?_)
      obtain ⟨rfl, hσ⟩ := hp
      rw [hσ]
      clear hσ σ9
      refine q_topi (show _ = mr σ m r k from (if_pos (by omega)).trans (f2 k (by omega))) ?_
      refine q_i2l (by omega) d_Mo_parts_29 ?_
      refine q_ladd d_Mo_parts_30 ?_
      refine q_lst_6 d_Mo_parts_31 (by decide) rfl ?_
      refine q_aload_n d_Mo_parts_33 rfl ?_
      refine q_gr (by assumption) pc_Mo 1 (by decide) w_fl_Mo_8 rfl (by rfl) d_Mo_parts_34 ?_
      refine q_sipush d_Mo_parts_37 (by decide) ?_
      refine q_iload_n d_Mo_parts_40 rfl ?_
      refine q_imul d_Mo_parts_41 ?_
      refine q_iload d_Mo_parts_42 rfl ?_
      refine q_iadd d_Mo_parts_44 ?_
      refine q_lload d_Mo_parts_45 rfl ?_
      refine q_iload_n d_Mo_parts_47 rfl ?_
      refine q_i2l (by omega) d_Mo_parts_48 ?_
      refine q_ldiv (by omega) (by omega) (by omega) d_Mo_parts_49 ?_
      refine q_topl (show _ = (c * 65536 + mr σ m r k) / s from Int.tdiv_eq_ediv_of_nonneg r2.1) ?_
      refine q_l2i d_Mo_parts_50 ?_
      refine q_ias (1024 * r + k) (by assumption) (by omega) (by omega) (by omega) d_Mo_parts_51 ?_
      refine q_lload d_Mo_parts_52 rfl ?_
      refine q_iload_n d_Mo_parts_54 rfl ?_
      refine q_i2l (by omega) d_Mo_parts_55 ?_
      refine q_lrem (by omega) (by omega) (by omega) d_Mo_parts_56 ?_
      refine q_topl (show _ = (c * 65536 + mr σ m r k) % s from Int.tmod_eq_emod_of_nonneg r2.1) ?_
      refine q_lst_n_3 d_Mo_parts_57 (by decide) rfl ?_
      refine q_iinc_5 d_Mo_parts_58 (by decide) rfl ?_
      refine q_goto (tgt := 12) d_Mo_parts_61 (by decide) ?_
      refine q_drop_6 ?_
      refine ih _ _ (by omega) (fun q h6 => by rw [q_up_a _ _ h6]; exact f1 q h6) (fun j hj => (mr_ne _ _ (by omega)).trans (f2 j (by omega))) (fun i j h6 h7 => (mr_ne _ _ (by omega)).trans (f3 i j h6 h7)) (fun j hj => if e : j = k then by subst e; rw [mr_up]; omega else by rw [mr_ne _ _ (by omega)]; exact f4 j hj) ?_ ⟨r5, r6⟩ _ (by omega)
      have e1 := dv_low 65536 (mr (q_up σ1 (m + 1) (1024 * r + k) ((c * 65536 + mr σ m r k) / s)) m r) (show k < n by omega)
      have e2 := dv_low 65536 (mr σ m r) (show k < n by omega)
      rw [mr_up, dv_congr (g := fun j => mr (q_up σ1 (m + 1) (1024 * r + k) ((c * 65536 + mr σ m r k) / s)) m r (k + 1 + j)) (h := fun j => mr σ1 m r (k + 1 + j)) (fun j hj => mr_ne _ _ (by omega))] at e1
      rw [e1, e2, ← f5]
      have e3 := Int.mul_ediv_add_emod (c * 65536 + mr σ m r k) s
      grind
  refine q_lconst (z := 0) d_Mo_parts_0 (by decide) ?_
  refine q_lst_n_3 d_Mo_parts_1 (by decide) rfl ?_
  refine q_aload_n d_Mo_parts_2 rfl ?_
  refine q_gr (by assumption) pc_Mo 2 (by decide) w_fl_Mo_14 rfl (by rfl) d_Mo_parts_3 ?_
  refine q_iload_n d_Mo_parts_6 rfl ?_
  refine q_ial (r) (by assumption) (by omega) (by omega) (by omega) d_Mo_parts_7 ?_
  refine q_topi h1 ?_
  refine q_iconst d_Mo_parts_8 rfl ?_
  refine q_isub d_Mo_parts_9 ?_
  refine q_ist_5 d_Mo_parts_10 (by decide) rfl ?_
  exact loop n σ 0 (Nat.le_refl n) (fun q _ => rfl) (fun j _ => rfl) (fun i j _ _ => rfl) h4 (by rw [Nat.sub_self]; simp [dv]) (by omega) _ rfl
