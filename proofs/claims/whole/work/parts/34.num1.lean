/-! NUM: clear, trim, compareMagnitude, same -/
set_option maxHeartbeats 4000000 in
set_option maxRecDepth 100000 in
theorem c_Nu_clear (l : Launch) (K : pw_K) {L : q_L} {a w : Nat} (hL : nL L a w) (σ : q_S) : q_C l K L y_Nu_clear b_Nu_clear 1 none 0 [.ref a] σ (fun v σ' => v = none ∧ σ' = q_up (q_up σ a 1 0) a 2 0) := by
  obtain ⟨⟨hA, hB⟩, hw⟩ := hL
  refine q_start [some (.ref a)] (by decide) (Nat.le_of_ble_eq_true rfl) (fun q h => h) ?_
  refine q_aload_n d_Nu_clear_0 rfl ?_
  refine q_iconst d_Nu_clear_1 rfl ?_
  refine q_pi (by assumption) pc_Nu 1 (by decide) w_fl_Nu_13 rfl rfl rfl rfl (by rfl) d_Nu_clear_2 ?_
  refine q_aload_n d_Nu_clear_5 rfl ?_
  refine q_iconst d_Nu_clear_6 rfl ?_
  refine q_pi (by assumption) pc_Nu 2 (by decide) w_fl_Nu_17 rfl rfl rfl rfl (by rfl) d_Nu_clear_7 ?_
  exact q_vret rfl (⟨rfl, rfl⟩) d_Nu_clear_10
theorem nV_clear (σ : q_S) (a w : Nat) : nV (q_up (q_up σ a 1 0) a 2 0) a w 0 := by
  refine ⟨0, ⟨?_, ?_, Nat.zero_le w, fun k hk => by omega, rfl⟩, fun h => by omega⟩
  · simp [q_up]
  · simp [q_up]
theorem q_fr2 {σ : q_S} {a i j q : Nat} {x y : Int} (h : q ≠ a) : q_up (q_up σ a i x) a j y q = σ q := by rw [q_up_a _ _ h, q_up_a _ _ h]
set_option maxHeartbeats 4000000 in
set_option maxRecDepth 100000 in
theorem c_Nu_trim (l : Launch) (K : pw_K) {L : q_L} {σ : q_S} {a w n : Nat} {m s : Int} (hL : nL L a w) (hu : nU σ a w n m s) : q_C l K L y_Nu_trim b_Nu_trim 1 none 0 [.ref a] σ (fun v σ' => v = none ∧ (∃ n', nU σ' a w n' m (if m = 0 then 0 else s) ∧ (0 < n' → σ' (a + 1) (n' - 1) ≠ 0)) ∧ ∀ q, q ≠ a → σ' q = σ q) := by
  obtain ⟨⟨hA, hB⟩, hw⟩ := hL
  refine q_start [some (.ref a)] (by decide) (Nat.le_of_ble_eq_true rfl) (fun q h => h) ?_
  have loop : ∀ (n : Nat) (σ1 : q_S), nU σ1 a w n m s → (∀ q, q ≠ a → σ1 q = σ q) → q_T l K L R_Nu b_Nu_trim 1 none 0 (fun v σ' => v = none ∧ (∃ n', nU σ' a w n' m (if m = 0 then 0 else s) ∧ (0 < n' → σ' (a + 1) (n' - 1) ≠ 0)) ∧ ∀ q, q ≠ a → σ' q = σ q) 0 [some (.ref a)] [] σ1 := by
    intro n
    induction n with
    | zero =>
      intro σ1 hu hfr
      obtain ⟨h1, h2, h3, h4, h5⟩ := hu
      refine q_aload_n d_Nu_trim_0 rfl ?_
      refine q_gi (by assumption) pc_Nu 1 (by decide) w_fl_Nu_13 rfl (by rfl) d_Nu_trim_1 ?_
      refine q_if_le (tgt := 34) (by omega) d_Nu_trim_4 (by decide) (fun c4 => ?_) (fun c4 => absurd c4 (by omega))
      refine q_aload_n d_Nu_trim_34 rfl ?_
      refine q_gi (by assumption) pc_Nu 1 (by decide) w_fl_Nu_13 rfl (by rfl) d_Nu_trim_35 ?_
      refine q_if_ne (tgt := 46) (by omega) d_Nu_trim_38 (by decide) (fun c38 => absurd c38 (by omega)) (fun c38 => ?_)
      refine q_aload_n d_Nu_trim_41 rfl ?_
      refine q_iconst d_Nu_trim_42 rfl ?_
      refine q_pi (by assumption) pc_Nu 2 (by decide) w_fl_Nu_17 rfl rfl rfl rfl (by rfl) d_Nu_trim_43 ?_
      exact q_vret rfl (⟨rfl, ⟨0, ⟨(q_up_ne _ _ (by omega)).trans h1, by rw [q_up_self, if_pos (by rw [← h5]; rfl)], Nat.zero_le w, fun k hk => by omega, by rw [q_up_a _ _ (by omega)]; exact h5⟩, fun h => by omega⟩, fun q hq => by rw [q_up_a _ _ hq]; exact hfr q hq⟩) d_Nu_trim_46
    | succ n ih =>
      intro σ1 hu hfr
      obtain ⟨h1, h2, h3, h4, h5⟩ := hu
      refine q_aload_n d_Nu_trim_0 rfl ?_
      refine q_gi (by assumption) pc_Nu 1 (by decide) w_fl_Nu_13 rfl (by rfl) d_Nu_trim_1 ?_
      refine q_if_le (tgt := 34) (by omega) d_Nu_trim_4 (by decide) (fun c4 => absurd c4 (by omega)) (fun c4 => ?_)
      refine q_aload_n d_Nu_trim_7 rfl ?_
      refine q_gr (by assumption) pc_Nu 0 (by decide) w_fl_Nu_9 rfl (by rfl) d_Nu_trim_8 ?_
      refine q_aload_n d_Nu_trim_11 rfl ?_
      refine q_gi (by assumption) pc_Nu 1 (by decide) w_fl_Nu_13 rfl (by rfl) d_Nu_trim_12 ?_
      refine q_iconst d_Nu_trim_15 rfl ?_
      refine q_isub d_Nu_trim_16 ?_
      refine q_ial (n) (by assumption) (by omega) (by omega) (by omega) d_Nu_trim_17 ?_
      refine q_if_ne (tgt := 34) (by have := h4 n (by omega); omega) d_Nu_trim_18 (by decide) (fun cl => ?_) (fun cl => ?_)
      · refine q_aload_n d_Nu_trim_34 rfl ?_
        refine q_gi (by assumption) pc_Nu 1 (by decide) w_fl_Nu_13 rfl (by rfl) d_Nu_trim_35 ?_
        refine q_if_ne (tgt := 46) (by omega) d_Nu_trim_38 (by decide) (fun c38 => ?_) (fun c38 => absurd c38 (by omega))
        exact q_vret rfl (⟨rfl, ⟨n + 1, ⟨h1, by rw [if_neg]; exact h2; rw [← h5]; have := dv_top (B := 2147483648) (by decide) h4 cl; have := ip_pos (B := 2147483648) (by decide) n; omega, h3, h4, h5⟩, fun _ => cl⟩, hfr⟩) d_Nu_trim_46
      · refine q_aload_n d_Nu_trim_21 rfl ?_
        refine q_dup d_Nu_trim_22 rfl ?_
        refine q_gi (by assumption) pc_Nu 1 (by decide) w_fl_Nu_13 rfl (by rfl) d_Nu_trim_23 ?_
        refine q_iconst d_Nu_trim_26 rfl ?_
        refine q_isub d_Nu_trim_27 ?_
        refine q_pi (by assumption) pc_Nu 1 (by decide) w_fl_Nu_13 rfl rfl rfl rfl (by rfl) d_Nu_trim_28 ?_
        refine q_goto (tgt := 0) d_Nu_trim_31 (by decide) ?_
        exact ih (q_up σ1 a 1 (σ1 a 1 - 1)) ⟨by rw [q_up_self]; omega, by rw [q_up_ne _ _ (by omega)]; exact h2, by omega, fun k hk => by rw [q_up_a _ _ (by omega)]; exact h4 k (by omega), by rw [q_up_a _ _ (by omega), ← h5, dv_s, cl]; simp⟩ (fun q hq => by rw [q_up_a _ _ hq]; exact hfr q hq)
  exact loop n σ hu (fun q _ => rfl)
theorem sg_pos {u v : Int} (h : v < u) : (u - v).sign = 1 := Int.sign_eq_one_of_pos (by omega)
theorem sg_neg {u v : Int} (h : u < v) : (u - v).sign = -1 := Int.sign_eq_neg_one_of_neg (by omega)
theorem sg_zero {u v : Int} (h : u = v) : (u - v).sign = 0 := by rw [show u - v = 0 by omega]; rfl
set_option maxHeartbeats 4000000 in
set_option maxRecDepth 100000 in
theorem c_Nu_compareMagnitude (l : Launch) (K : pw_K) {L : q_L} {σ : q_S} {a b wa wb : Nat} {x y : Int} (hLa : nL L a wa) (hLb : nL L b wb) (ha : nV σ a wa x) (hb : nV σ b wb y) : q_C l K L y_Nu_compareMagnitude b_Nu_compareMagnitude 3 (some .int) 0 [.ref a, .ref b] σ (fun v σ' => v = some (vi ((x.natAbs : Int) - y.natAbs).sign) ∧ σ' = σ) := by
  obtain ⟨⟨hA, hB⟩, hw⟩ := hLa
  obtain ⟨⟨hA', hB'⟩, hw'⟩ := hLb
  obtain ⟨n, ⟨h1, h2, h3, h4, h5⟩, ht⟩ := ha
  obtain ⟨n', ⟨g1, g2, g3, g4, g5⟩, gt⟩ := hb
  refine q_start [some (.ref a), some (.ref b), none] (by decide) (Nat.le_of_ble_eq_true rfl) (fun q h => h) ?_
  have loop : ∀ {n : Nat}, (∀ k, k < n → 0 ≤ σ (a + 1) k ∧ σ (a + 1) k < 2147483648) → (∀ k, k < n → 0 ≤ σ (b + 1) k ∧ σ (b + 1) k < 2147483648) → dv 2147483648 (σ (a + 1)) n = x.natAbs → dv 2147483648 (σ (b + 1)) n = y.natAbs → σ a 1 = n → σ b 1 = n → n ≤ wa → n ≤ wb → ∀ k : Nat, (∀ j, k ≤ j → j < n → σ (a + 1) j = σ (b + 1) j) → k ≤ n → ∀ i : Int, i = k - 1 → q_T l K L R_Nu b_Nu_compareMagnitude 3 (some .int) 0 (fun v σ' => v = some (vi ((x.natAbs : Int) - y.natAbs).sign) ∧ σ' = σ) 35 [some (.ref a), some (.ref b), some (vi i)] [] σ := by
    clear h1 h2 h3 h4 h5 ht g1 g2 g3 g4 g5 gt n n'
    intro n h4 g4 h5 g5 h1 g1 h3 g3 k
    induction k with
    | zero =>
      intro hEq hk i hi
      refine q_iload_n d_Nu_compareMagnitude_35 rfl ?_
      refine q_if_lt (tgt := 81) (by omega) d_Nu_compareMagnitude_36 (by decide) (fun c36 => ?_) (fun c36 => absurd c36 (by omega))
      refine q_iconst d_Nu_compareMagnitude_81 rfl ?_
      exact q_iret rfl (⟨by rw [sg_zero (by rw [← h5, ← g5]; exact dv_congr (fun j hj => hEq j (by omega) hj))], rfl⟩) d_Nu_compareMagnitude_82
    | succ k ih =>
      intro hEq hk i hi
      refine q_iload_n d_Nu_compareMagnitude_35 rfl ?_
      refine q_if_lt (tgt := 81) (by omega) d_Nu_compareMagnitude_36 (by decide) (fun c36 => absurd c36 (by omega)) (fun c36 => ?_)
      have r1 := h4 k (by omega)
      have r2 := g4 k (by omega)
      have r1 := h4 k (by omega)
      have r2 := g4 k (by omega)
      refine q_aload_n d_Nu_compareMagnitude_39 rfl ?_
      refine q_gr (by assumption) pc_Nu 0 (by decide) w_fl_Nu_9 rfl (by rfl) d_Nu_compareMagnitude_40 ?_
      refine q_iload_n d_Nu_compareMagnitude_43 rfl ?_
      refine q_ial (k) (by assumption) (by omega) (by omega) (by omega) d_Nu_compareMagnitude_44 ?_
      refine q_aload_n d_Nu_compareMagnitude_45 rfl ?_
      refine q_gr (by assumption) pc_Nu 0 (by decide) w_fl_Nu_9 rfl (by rfl) d_Nu_compareMagnitude_46 ?_
      refine q_iload_n d_Nu_compareMagnitude_49 rfl ?_
      refine q_ial (k) (by assumption) (by omega) (by omega) (by omega) d_Nu_compareMagnitude_50 ?_
      refine q_icmp_eq (tgt := 75) (by omega) (by omega) d_Nu_compareMagnitude_51 (by decide) (fun ce => ?_) (fun ce => ?_)
      · refine q_iinc_2 d_Nu_compareMagnitude_75 (by decide) rfl ?_
        refine q_goto (tgt := 35) d_Nu_compareMagnitude_78 (by decide) ?_
        exact ih (fun j h6 h7 => if e : j = k then by rw [e]; exact ce else hEq j (by omega) h7) (by omega) _ (by omega)
      · refine q_aload_n d_Nu_compareMagnitude_54 rfl ?_
        refine q_gr (by assumption) pc_Nu 0 (by decide) w_fl_Nu_9 rfl (by rfl) d_Nu_compareMagnitude_55 ?_
        refine q_iload_n d_Nu_compareMagnitude_58 rfl ?_
        refine q_ial (k) (by assumption) (by omega) (by omega) (by omega) d_Nu_compareMagnitude_59 ?_
        refine q_aload_n d_Nu_compareMagnitude_60 rfl ?_
        refine q_gr (by assumption) pc_Nu 0 (by decide) w_fl_Nu_9 rfl (by rfl) d_Nu_compareMagnitude_61 ?_
        refine q_iload_n d_Nu_compareMagnitude_64 rfl ?_
        refine q_ial (k) (by assumption) (by omega) (by omega) (by omega) d_Nu_compareMagnitude_65 ?_
        refine q_icmp_ge (tgt := 73) (by omega) (by omega) d_Nu_compareMagnitude_66 (by decide) (fun cg => ?_) (fun cg => ?_)
        · refine q_iconst d_Nu_compareMagnitude_73 rfl ?_
          exact q_iret rfl (⟨by rw [sg_pos (by rw [← h5, ← g5]; exact dv_cmp_lt (by decide) (show k < n by omega) g4 h4 (fun j h6 h7 => (hEq j (by omega) h7).symm) (by omega))], rfl⟩) d_Nu_compareMagnitude_74
        · refine q_iconst d_Nu_compareMagnitude_69 rfl ?_
          refine q_goto (tgt := 74) d_Nu_compareMagnitude_70 (by decide) ?_
          exact q_iret rfl (⟨by rw [sg_neg (by rw [← h5, ← g5]; exact dv_cmp_lt (by decide) (show k < n by omega) h4 g4 (fun j h6 h7 => hEq j (by omega) h7) (by omega))], rfl⟩) d_Nu_compareMagnitude_74
  refine q_aload_n d_Nu_compareMagnitude_0 rfl ?_
  refine q_gi (by assumption) pc_Nu 1 (by decide) w_fl_Nu_13 rfl (by rfl) d_Nu_compareMagnitude_1 ?_
  refine q_aload_n d_Nu_compareMagnitude_4 rfl ?_
  refine q_gi (by assumption) pc_Nu 1 (by decide) w_fl_Nu_13 rfl (by rfl) d_Nu_compareMagnitude_5 ?_
  refine q_icmp_eq (tgt := 28) (by omega) (by omega) d_Nu_compareMagnitude_8 (by decide) (fun ce => ?_) (fun ce => ?_)
  · refine q_aload_n d_Nu_compareMagnitude_28 rfl ?_
    refine q_gi (by assumption) pc_Nu 1 (by decide) w_fl_Nu_13 rfl (by rfl) d_Nu_compareMagnitude_29 ?_
    refine q_iconst d_Nu_compareMagnitude_32 rfl ?_
    refine q_isub d_Nu_compareMagnitude_33 ?_
    refine q_ist_n_2 d_Nu_compareMagnitude_34 (by decide) rfl ?_
    obtain rfl : n = n' := by omega
    exact loop h4 g4 h5 g5 h1 g1 h3 g3 n (fun j h6 h7 => by omega) (Nat.le_refl n) _ (by omega)
  · refine q_aload_n d_Nu_compareMagnitude_11 rfl ?_
    refine q_gi (by assumption) pc_Nu 1 (by decide) w_fl_Nu_13 rfl (by rfl) d_Nu_compareMagnitude_12 ?_
    refine q_aload_n d_Nu_compareMagnitude_15 rfl ?_
    refine q_gi (by assumption) pc_Nu 1 (by decide) w_fl_Nu_13 rfl (by rfl) d_Nu_compareMagnitude_16 ?_
    refine q_icmp_ge (tgt := 26) (by omega) (by omega) d_Nu_compareMagnitude_19 (by decide) (fun cg => ?_) (fun cg => ?_)
    · refine q_iconst d_Nu_compareMagnitude_26 rfl ?_
      exact q_iret rfl (⟨by rw [sg_pos (by rw [← h5, ← g5]; exact dv_len_lt (by decide) (show n' < n by omega) g4 h4 (ht (by omega)))], rfl⟩) d_Nu_compareMagnitude_27
    · refine q_iconst d_Nu_compareMagnitude_22 rfl ?_
      refine q_goto (tgt := 27) d_Nu_compareMagnitude_23 (by decide) ?_
      exact q_iret rfl (⟨by rw [sg_neg (by rw [← h5, ← g5]; exact dv_len_lt (by decide) (show n < n' by omega) h4 g4 (gt (by omega)))], rfl⟩) d_Nu_compareMagnitude_27
theorem sm_eq {x y : Int} (h1 : x.sign = y.sign) (h2 : ((x.natAbs : Int) - y.natAbs).sign = 0) : x = y := by
  have h3 := sg3 x
  have h4 := sg3 y
  have h5 := sg3 ((x.natAbs : Int) - y.natAbs)
  omega
set_option maxHeartbeats 4000000 in
set_option maxRecDepth 100000 in
theorem c_Nu_same (l : Launch) (K : pw_K) {L : q_L} {σ : q_S} {a b wa wb : Nat} {x y : Int} (hLa : nL L a wa) (hLb : nL L b wb) (ha : nV σ a wa x) (hb : nV σ b wb y) : q_C l K L y_Nu_same b_Nu_same 2 (some .boolean) 1 [.ref a, .ref b] σ (fun v σ' => v = some (vi (if x = y then 1 else 0)) ∧ σ' = σ) := by
  have h2 : σ a 2 = x.sign := by obtain ⟨n, hu, -⟩ := ha; exact hu.2.1
  have g2 : σ b 2 = y.sign := by obtain ⟨n, hu, -⟩ := hb; exact hu.2.1
  refine q_start [some (.ref a), some (.ref b)] (by decide) (Nat.le_of_ble_eq_true rfl) (fun q h => h) ?_
  refine q_aload_n d_Nu_same_0 rfl ?_
  refine q_gi hLa.1.1 pc_Nu 2 (by decide) w_fl_Nu_17 rfl (by rfl) d_Nu_same_1 ?_
  refine q_aload_n d_Nu_same_4 rfl ?_
  refine q_gi hLb.1.1 pc_Nu 2 (by decide) w_fl_Nu_17 rfl (by rfl) d_Nu_same_5 ?_
  refine q_icmp_ne (tgt := 23) (by have := sg3 x; omega) (by have := sg3 y; omega) d_Nu_same_8 (by decide) (fun cs => ?_) (fun cs => ?_)
  · refine q_iconst d_Nu_same_23 rfl ?_
    exact q_zret rfl (Or.inl rfl) (⟨by rw [if_neg (fun e => cs (by rw [h2, g2, e]))], rfl⟩) d_Nu_same_24
  · refine q_aload_n d_Nu_same_11 rfl ?_
    refine q_aload_n d_Nu_same_12 rfl ?_
    refine q_callV (As := [.ref b]) (c_Nu_compareMagnitude l K hLa hLb ha hb) w_cd_Nu_compareMagnitude w_ini_Nu w_ml_Nu_40 w_im_Nu_compareMagnitude w_se_Nu_compareMagnitude hLa.1.1 rfl hd_Nu_compareMagnitude rfl (Nat.le_of_ble_eq_true rfl) d_Nu_same_13 (by decide) (by decide) (fun v σ' hp => ?_)
    obtain ⟨rfl, rfl⟩ := hp
    refine q_if_ne (tgt := 23) (by have := sg3 ((x.natAbs : Int) - y.natAbs); omega) d_Nu_same_16 (by decide) (fun cz => ?_) (fun cz => ?_)
    · refine q_iconst d_Nu_same_23 rfl ?_
      exact q_zret rfl (Or.inl rfl) (⟨by rw [if_neg (fun e => cz (sg_zero (by rw [e])))], rfl⟩) d_Nu_same_24
    · refine q_iconst d_Nu_same_19 rfl ?_
      refine q_goto (tgt := 24) d_Nu_same_20 (by decide) ?_
      exact q_zret rfl (Or.inr rfl) (⟨by rw [if_pos (sm_eq (h2.symm.trans (cs.trans g2)) cz)], rfl⟩) d_Nu_same_24
