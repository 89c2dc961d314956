/-! THE REFERENCE'S ROWS: against, lift, product -/
set_option maxHeartbeats 4000000 in
set_option maxRecDepth 100000 in
theorem c_Mo_against (l : Launch) (K : pw_K) {L : q_L} {σ : q_S} {m i j : Nat} {x y : Int} (hL : mL L m) (hi : i < 160) (hj : j < 160) (hx : rV σ m i x) (hy : rV σ m j y) : q_C l K L y_Mo_against b_Mo_against 4 (some .int) 1 [.ref m, vi i, vi j] σ (fun v σ' => v = some (vi ((x.natAbs : Int) - y.natAbs).sign) ∧ σ' = σ) := by
  obtain ⟨hM0, hM1, hM2, hM3, hM4, hM5, hM6, hM7, hM8, hM9⟩ := hL
  obtain ⟨n, ⟨h1, h2, h3, h4, h5⟩, ht⟩ := hx
  obtain ⟨n', ⟨g1, g2, g3, g4, g5⟩, gt⟩ := hy
  refine q_start [some (.ref m), some (vi i), some (vi j), none] (by decide) (Nat.le_of_ble_eq_true rfl) (fun q h => h) ?_
  have loop : ∀ {n : Nat}, (∀ k, k < n → 0 ≤ mr σ m i k ∧ mr σ m i k < 65536) → (∀ k, k < n → 0 ≤ mr σ m j k ∧ mr σ m j k < 65536) → dv 65536 (mr σ m i) n = x.natAbs → dv 65536 (mr σ m j) n = y.natAbs → σ (m + 2) i = n → σ (m + 2) j = n → n ≤ 1024 → ∀ k : Nat, (∀ u, k ≤ u → u < n → mr σ m i u = mr σ m j u) → k ≤ n → ∀ t : Int, t = k - 1 → q_T l K L R_Mo b_Mo_against 4 (some .int) 1 (fun v σ' => v = some (vi ((x.natAbs : Int) - y.natAbs).sign) ∧ σ' = σ) 45 [some (.ref m), some (vi i), some (vi j), some (vi t)] [] σ := by
    clear h1 h2 h3 h4 h5 ht g1 g2 g3 g4 g5 gt n n'
    intro n h4 g4 h5 g5 h1 g1 h3 k
    induction k with
    | zero =>
      intro hEq hk t ht
      refine q_iload_n d_Mo_against_45 rfl ?_
      refine q_if_lt (tgt := 91) (by omega) d_Mo_against_46 (by decide) (fun c46 => ?_) (fun c46 => absurd c46 (by omega))
      refine q_iconst d_Mo_against_91 rfl ?_
      exact q_iret rfl (⟨by rw [sg_zero (by rw [← h5, ← g5]; exact dv_congr (fun u hu => hEq u (by omega) hu))], rfl⟩) d_Mo_against_92
    | succ k ih =>
      intro hEq hk t ht
      have ht : t = k := by omega
      refine q_iload_n d_Mo_against_45 rfl ?_
      refine q_if_lt (tgt := 91) (by omega) d_Mo_against_46 (by decide) (fun c46 => absurd c46 (by omega)) (fun c46 => ?_)
      have r1 := h4 k (by omega)
      have r2 := g4 k (by omega)
      have r1 := h4 k (by omega)
      have r2 := g4 k (by omega)
      refine q_aload_n d_Mo_against_49 rfl ?_
      refine q_iload_n d_Mo_against_50 rfl ?_
      refine q_iload_n d_Mo_against_51 rfl ?_
      refine q_callV (As := [vi i, vi t]) (by rw [ht]; exact c_Mo_at l K (r := i) (n := n) k ⟨hM0, hM1, hM2, hM3, hM4, hM5, hM6, hM7, hM8, hM9⟩ (by omega) h1 (by omega) (by omega)) w_cd_Mo_at w_ini_Mo w_ml_Mo_45 w_im_Mo_at w_se_Mo_at (by assumption) rfl hd_Mo_at rfl (Nat.le_of_ble_eq_true rfl) d_Mo_against_52 (by decide) (by decide) (fun v σ9 hp => ?_)
      obtain ⟨rfl, hσ⟩ := hp
      rw [hσ]
      clear hσ σ9
      refine q_topi (show _ = mr σ m i k from if_pos (by omega)) ?_
      refine q_aload_n d_Mo_against_55 rfl ?_
      refine q_iload_n d_Mo_against_56 rfl ?_
      refine q_iload_n d_Mo_against_57 rfl ?_
      refine q_callV (As := [vi j, vi t]) (by rw [ht]; exact c_Mo_at l K (r := j) (n := n) k ⟨hM0, hM1, hM2, hM3, hM4, hM5, hM6, hM7, hM8, hM9⟩ (by omega) g1 (by omega) (by omega)) w_cd_Mo_at w_ini_Mo w_ml_Mo_45 w_im_Mo_at w_se_Mo_at (by assumption) rfl hd_Mo_at rfl (Nat.le_of_ble_eq_true rfl) d_Mo_against_58 (by decide) (by decide) (fun v σ9 hp => ?_)
      obtain ⟨rfl, hσ⟩ := hp
      rw [hσ]
      clear hσ σ9
      refine q_topi (show _ = mr σ m j k from if_pos (by omega)) ?_
      refine q_icmp_eq (tgt := 85) (by omega) (by omega) d_Mo_against_61 (by decide) (fun ce => ?_) (fun ce => ?_)
      · refine q_iinc_3 d_Mo_against_85 (by decide) rfl ?_
        refine q_goto (tgt := 45) d_Mo_against_88 (by decide) ?_
        exact ih (fun u h6 h7 => if e : u = k then by rw [e]; exact ce else hEq u (by omega) h7) (by omega) _ (by omega)
      · refine q_aload_n d_Mo_against_64 rfl ?_
        refine q_iload_n d_Mo_against_65 rfl ?_
        refine q_iload_n d_Mo_against_66 rfl ?_
        refine q_callV (As := [vi i, vi t]) (by rw [ht]; exact c_Mo_at l K (r := i) (n := n) k ⟨hM0, hM1, hM2, hM3, hM4, hM5, hM6, hM7, hM8, hM9⟩ (by omega) h1 (by omega) (by omega)) w_cd_Mo_at w_ini_Mo w_ml_Mo_45 w_im_Mo_at w_se_Mo_at (by assumption) rfl hd_Mo_at rfl (Nat.le_of_ble_eq_true rfl) d_Mo_against_67 (by decide) (by decide) (fun v σ9 hp => ?_)
        obtain ⟨rfl, hσ⟩ := hp
        rw [hσ]
        clear hσ σ9
        refine q_topi (show _ = mr σ m i k from if_pos (by omega)) ?_
        refine q_aload_n d_Mo_against_70 rfl ?_
        refine q_iload_n d_Mo_against_71 rfl ?_
        refine q_iload_n d_Mo_against_72 rfl ?_
        refine q_callV (As := [vi j, vi t]) (by rw [ht]; exact c_Mo_at l K (r := j) (n := n) k ⟨hM0, hM1, hM2, hM3, hM4, hM5, hM6, hM7, hM8, hM9⟩ (by omega) g1 (by omega) (by omega)) w_cd_Mo_at w_ini_Mo w_ml_Mo_45 w_im_Mo_at w_se_Mo_at (by assumption) rfl hd_Mo_at rfl (Nat.le_of_ble_eq_true rfl) d_Mo_against_73 (by decide) (by decide) (fun v σ9 hp => ?_)
        obtain ⟨rfl, hσ⟩ := hp
        rw [hσ]
        clear hσ σ9
        refine q_topi (show _ = mr σ m j k from if_pos (by omega)) ?_
        refine q_icmp_ge (tgt := 83) (by omega) (by omega) d_Mo_against_76 (by decide) (fun cg => ?_) (fun cg => ?_)
        · refine q_iconst d_Mo_against_83 rfl ?_
          exact q_iret rfl (⟨by rw [sg_pos (by rw [← h5, ← g5]; exact dv_cmp_lt (by decide) (show k < n by omega) g4 h4 (fun u h6 h7 => (hEq u (by omega) h7).symm) (by omega))], rfl⟩) d_Mo_against_84
        · refine q_iconst d_Mo_against_79 rfl ?_
          refine q_goto (tgt := 84) d_Mo_against_80 (by decide) ?_
          exact q_iret rfl (⟨by rw [sg_neg (by rw [← h5, ← g5]; exact dv_cmp_lt (by decide) (show k < n by omega) h4 g4 (fun u h6 h7 => hEq u (by omega) h7) (by omega))], rfl⟩) d_Mo_against_84
  refine q_aload_n d_Mo_against_0 rfl ?_
  refine q_gr (by assumption) pc_Mo 2 (by decide) w_fl_Mo_14 rfl (by rfl) d_Mo_against_1 ?_
  refine q_iload_n d_Mo_against_4 rfl ?_
  refine q_ial (i) (by assumption) (by omega) (by omega) (by omega) d_Mo_against_5 ?_
  refine q_topi h1 ?_
  refine q_aload_n d_Mo_against_6 rfl ?_
  refine q_gr (by assumption) pc_Mo 2 (by decide) w_fl_Mo_14 rfl (by rfl) d_Mo_against_7 ?_
  refine q_iload_n d_Mo_against_10 rfl ?_
  refine q_ial (j) (by assumption) (by omega) (by omega) (by omega) d_Mo_against_11 ?_
  refine q_topi g1 ?_
  refine q_icmp_eq (tgt := 36) (by omega) (by omega) d_Mo_against_12 (by decide) (fun ce => ?_) (fun ce => ?_)
  · refine q_aload_n d_Mo_against_36 rfl ?_
    refine q_gr (by assumption) pc_Mo 2 (by decide) w_fl_Mo_14 rfl (by rfl) d_Mo_against_37 ?_
    refine q_iload_n d_Mo_against_40 rfl ?_
    refine q_ial (i) (by assumption) (by omega) (by omega) (by omega) d_Mo_against_41 ?_
    refine q_topi h1 ?_
    refine q_iconst d_Mo_against_42 rfl ?_
    refine q_isub d_Mo_against_43 ?_
    refine q_ist_n_3 d_Mo_against_44 (by decide) rfl ?_
    obtain rfl : n = n' := by omega
    exact loop h4 g4 h5 g5 h1 g1 h3 n (fun j h6 h7 => by omega) (Nat.le_refl n) _ (by omega)
  · refine q_aload_n d_Mo_against_15 rfl ?_
    refine q_gr (by assumption) pc_Mo 2 (by decide) w_fl_Mo_14 rfl (by rfl) d_Mo_against_16 ?_
    refine q_iload_n d_Mo_against_19 rfl ?_
    refine q_ial (i) (by assumption) (by omega) (by omega) (by omega) d_Mo_against_20 ?_
    refine q_topi h1 ?_
    refine q_aload_n d_Mo_against_21 rfl ?_
    refine q_gr (by assumption) pc_Mo 2 (by decide) w_fl_Mo_14 rfl (by rfl) d_Mo_against_22 ?_
    refine q_iload_n d_Mo_against_25 rfl ?_
    refine q_ial (j) (by assumption) (by omega) (by omega) (by omega) d_Mo_against_26 ?_
    refine q_topi g1 ?_
    refine q_icmp_ge (tgt := 34) (by omega) (by omega) d_Mo_against_27 (by decide) (fun cg => ?_) (fun cg => ?_)
    · refine q_iconst d_Mo_against_34 rfl ?_
      exact q_iret rfl (⟨by rw [sg_pos (by rw [← h5, ← g5]; exact dv_len_lt (by decide) (show n' < n by omega) g4 h4 (ht (by omega)))], rfl⟩) d_Mo_against_35
    · refine q_iconst d_Mo_against_30 rfl ?_
      refine q_goto (tgt := 35) d_Mo_against_31 (by decide) ?_
      exact q_iret rfl (⟨by rw [sg_neg (by rw [← h5, ← g5]; exact dv_len_lt (by decide) (show n < n' by omega) h4 g4 (gt (by omega)))], rfl⟩) d_Mo_against_35
theorem q_ishl1 {p : Nat} (h : p < 16) : Int32.ofInt 1 <<< (Int32.ofInt (p : Int) &&& 31) = Int32.ofInt (2 ^ p) := by
  have : ∀ p : Fin 16, Int32.ofInt 1 <<< (Int32.ofInt ((p.val : Nat) : Int) &&& 31) = Int32.ofInt (2 ^ p.val) := by decide +kernel
  exact this ⟨p, h⟩
theorem p16 {p : Nat} (h : p < 16) : 0 < (2 : Int) ^ p ∧ (2 : Int) ^ p ≤ 32768 := by
  have h1 := ip_le (B := 2) (by decide) (show p ≤ 15 by omega)
  exact ⟨ip_pos (by decide) p, by simpa using h1⟩
set_option maxHeartbeats 4000000 in
set_option maxRecDepth 100000 in
theorem c_Mo_lift (l : Launch) (K : pw_K) {L : q_L} {σ : q_S} {m r i p u : Nat} {x : Int} (hL : mL L m) (hr : r < 160) (hi : i < 160) (hx : rV σ m i x) (hu : (x.natAbs : Int) < 65536 ^ u) (hw : u + p / 16 + 1 ≤ 1024) : q_C l K L y_Mo_lift b_Mo_lift 10 none 2 [.ref m, vi r, vi i, vi p] σ (fun v σ' => v = none ∧ rV σ' m r (x * 2 ^ p) ∧ rO σ σ' m ∧ ∀ j, j ≠ r → rE σ σ' m j) := by
  obtain ⟨hM0, hM1, hM2, hM3, hM4, hM5, hM6, hM7, hM8, hM9⟩ := hL
  obtain ⟨n, hU, ht0⟩ := hx
  have hn := (hU.le ht0).mpr hu
  obtain ⟨h1, h2, h3, h4, h5⟩ := hU
  have hp2 := p16 (Nat.mod_lt p (show 0 < 16 by decide))
  refine q_start [some (.ref m), some (vi r), some (vi i), some (vi p), none, none, none, none, none, none] (by decide) (Nat.le_of_ble_eq_true rfl) (fun q h => h) ?_
  have loop2 : ∀ (d k : Nat), k + d = n → ∀ (σ1 : q_S) (c : Int), (∀ q, q ≠ m + 9 → σ1 q = σ q) → (∀ u, u < k + p / 16 → 0 ≤ σ1 (m + 9) u ∧ σ1 (m + 9) u < 65536) → dv 65536 (σ1 (m + 9)) (k + p / 16) + c * 65536 ^ (k + p / 16) = 65536 ^ (p / 16) * 2 ^ (p % 16) * dv 65536 (mr σ m i) k → (0 ≤ c ∧ c < 2 ^ (p % 16)) → ∀ t : Int, t = k →  q_T l K L R_Mo b_Mo_lift 10 none 2 (fun v σ' => v = none ∧ rV σ' m r (x * 2 ^ p) ∧ rO σ σ' m ∧ ∀ j, j ≠ r → rE σ σ' m j) 52 [some (.ref m), some (vi r), some (vi i), some (vi p), some (vi ((p / 16 : Nat) : Int)), some (vi (2 ^ (p % 16))), some (vi (n : Int)), some (vi c), some (vi t), none] [] σ1 := by
    intro d
    induction d with
    | zero =>
      intro k hk σ1 c f1 f2 f3 hc t ht
      refine q_iload d_Mo_lift_52 rfl ?_
      refine q_iload d_Mo_lift_54 rfl ?_
      refine q_icmp_ge (tgt := 102) (by omega) (by omega) d_Mo_lift_56 (by decide) (fun c56 => ?_) (fun c56 => absurd c56 (by omega))
      refine q_aload_n d_Mo_lift_102 rfl ?_
      refine q_gr (by assumption) pc_Mo 10 (by decide) w_fl_Mo_36 rfl (by rfl) d_Mo_lift_103 ?_
      refine q_iload d_Mo_lift_106 rfl ?_
      refine q_iload d_Mo_lift_108 rfl ?_
      refine q_iadd d_Mo_lift_110 ?_
      refine q_iload d_Mo_lift_111 rfl ?_
      refine q_ias (n + p / 16) (by assumption) (by omega) (by omega) (by omega) d_Mo_lift_113 ?_
      obtain rfl : k = n := by omega
      have hr9 : ∀ u, u < k + p / 16 + 1 → 0 ≤ q_up σ1 (m + 9) (k + p / 16) c (m + 9) u ∧ q_up σ1 (m + 9) (k + p / 16) c (m + 9) u < 65536 := fun u hu => if e : u = k + p / 16 then by subst e; rw [q_up_self]; omega else by rw [q_up_k _ _ e]; exact f2 u (by omega)
      have hdv : dv 65536 (q_up σ1 (m + 9) (k + p / 16) c (m + 9)) (k + p / 16 + 1) = (x * 2 ^ p).natAbs := by
        rw [dv_s, dv_congr (h := σ1 (m + 9)) (fun u hu => q_up_k _ _ (by omega)), q_up_self, f3, h5, Int.natAbs_mul, Int.natAbs_pow, show (65536 : Int) = 2 ^ 16 by decide, ← Int.pow_mul]
        have e1 : (2 : Int) ^ p = 2 ^ (16 * (p / 16)) * 2 ^ (p % 16) := by rw [← Int.pow_add, Nat.div_add_mod]
        simp only [Int.natCast_mul, Int.natCast_pow]
        rw [show ((Int.natAbs 2 : Nat) : Int) = 2 from rfl, e1]
        grind
      have hsg : (x * 2 ^ p).sign = x.sign := by rw [Int.sign_mul, Int.sign_eq_one_of_pos (ip_pos (by decide) p), Int.mul_one]
      refine q_aload_n d_Mo_lift_114 rfl ?_
      refine q_iload_n d_Mo_lift_115 rfl ?_
      refine q_iload d_Mo_lift_116 rfl ?_
      refine q_iload d_Mo_lift_118 rfl ?_
      refine q_iadd d_Mo_lift_120 ?_
      refine q_iconst d_Mo_lift_121 rfl ?_
      refine q_iadd d_Mo_lift_122 ?_
      refine q_aload_n d_Mo_lift_123 rfl ?_
      refine q_gr (by assumption) pc_Mo 3 (by decide) w_fl_Mo_17 rfl (by rfl) d_Mo_lift_124 ?_
      refine q_iload_n d_Mo_lift_127 rfl ?_
      refine q_ial (i) (by assumption) (by omega) (by omega) (by omega) d_Mo_lift_128 ?_
      refine q_topi (show _ = (x * 2 ^ p).sign by rw [q_up_a _ _ (by omega), f1 (m + 3) (by omega), h2, hsg]) ?_
      refine q_callV (As := [vi r, vi ((k + p / 16 + 1 : Nat) : Int), vi (x * 2 ^ p).sign]) (c_Mo_takes l K (N := k + p / 16 + 1) ⟨hM0, hM1, hM2, hM3, hM4, hM5, hM6, hM7, hM8, hM9⟩ hr (by omega) hr9) w_cd_Mo_takes w_ini_Mo w_ml_Mo_53 w_im_Mo_takes w_se_Mo_takes (by assumption) rfl hd_Mo_takes rfl (Nat.le_of_ble_eq_true rfl) d_Mo_lift_129 (by decide) (by decide) (fun v σ2 hp => ?_)
      obtain ⟨rfl, ⟨n2, k1, k2⟩, k3, k4, k5⟩ := hp
      exact q_vret rfl (⟨rfl, by rw [hdv] at k1; exact k1.val k2 rfl (fun _ => rfl), fun q h6 h7 h8 h9 => by rw [k3 q h6 h7 h8 h9, q_up_a _ _ h9, f1 q h9], fun j hj => rE.trans ⟨fun u _ => by show q_up σ1 (m + 9) (k + p / 16) c (m + 1) _ = σ (m + 1) _; rw [q_up_a _ _ (by omega), f1 _ (by omega)], by rw [q_up_a _ _ (by omega), f1 _ (by omega)], by rw [q_up_a _ _ (by omega), f1 _ (by omega)]⟩ (k5 j hj)⟩) d_Mo_lift_132
    | succ d ih =>
      intro k hk σ1 c f1 f2 f3 hc t ht
      refine q_iload d_Mo_lift_52 rfl ?_
      refine q_iload d_Mo_lift_54 rfl ?_
      refine q_icmp_ge (tgt := 102) (by omega) (by omega) d_Mo_lift_56 (by decide) (fun c56 => absurd c56 (by omega)) (fun c56 => ?_)
      have r1 := h4 k (by omega)
      have e1 : σ1 (m + 2) i = n := by rw [f1 (m + 2) (by omega)]; exact h1
      have r1 := h4 k (by omega)
      have e1 : σ1 (m + 2) i = n := by rw [f1 (m + 2) (by omega)]; exact h1
      refine q_aload_n d_Mo_lift_59 rfl ?_
      refine q_iload_n d_Mo_lift_60 rfl ?_
      refine q_iload d_Mo_lift_61 rfl ?_
      refine q_callV (As := [vi i, vi t]) (by rw [ht]; exact c_Mo_at l K (r := i) (n := n) k ⟨hM0, hM1, hM2, hM3, hM4, hM5, hM6, hM7, hM8, hM9⟩ (by omega) e1 (by omega) (by omega)) w_cd_Mo_at w_ini_Mo w_ml_Mo_45 w_im_Mo_at w_se_Mo_at (by assumption) rfl hd_Mo_at rfl (Nat.le_of_ble_eq_true rfl) d_Mo_lift_63 (by decide) (by decide) (fun v σ9 hp => ?_)
      obtain ⟨rfl, hσ⟩ := hp
      rw [hσ]
      clear hσ σ9
      refine q_topi (show _ = mr σ m i k from (if_pos (by omega)).trans (by show σ1 (m + 1) _ = σ (m + 1) _; rw [f1 (m + 1) (by omega)])) ?_
      refine q_iload d_Mo_lift_66 rfl ?_
      refine q_imul d_Mo_lift_68 ?_
      refine q_iload d_Mo_lift_69 rfl ?_
      refine q_iadd d_Mo_lift_71 ?_
      have r2 : 0 ≤ mr σ m i k * 2 ^ (p % 16) ∧ mr σ m i k * 2 ^ (p % 16) ≤ 65535 * 2 ^ (p % 16) := ⟨Int.mul_nonneg r1.1 (by omega), Int.mul_le_mul_of_nonneg_right (by omega) (by omega)⟩
      have r3 : 0 ≤ mr σ m i k * 2 ^ (p % 16) + c ∧ mr σ m i k * 2 ^ (p % 16) + c < 65536 * 2 ^ (p % 16) := by omega
      refine q_ist_9 d_Mo_lift_72 (by decide) rfl ?_
      refine q_aload_n d_Mo_lift_74 rfl ?_
      refine q_gr (by assumption) pc_Mo 10 (by decide) w_fl_Mo_36 rfl (by rfl) d_Mo_lift_75 ?_
      refine q_iload d_Mo_lift_78 rfl ?_
      refine q_iload d_Mo_lift_80 rfl ?_
      refine q_iadd d_Mo_lift_82 ?_
      refine q_iload d_Mo_lift_83 rfl ?_
      refine q_ldc (z := 65536) w_k_Mo_52 (by decide) d_Mo_lift_85 ?_
      refine q_irem (by omega) (by omega) (by omega) d_Mo_lift_87 ?_
      refine q_topi (show _ = (mr σ m i k * 2 ^ (p % 16) + c) % 65536 from Int.tmod_eq_emod_of_nonneg r3.1) ?_
      refine q_ias (k + p / 16) (by assumption) (by omega) (by omega) (by omega) d_Mo_lift_88 ?_
      refine q_iload d_Mo_lift_89 rfl ?_
      refine q_ldc (z := 65536) w_k_Mo_52 (by decide) d_Mo_lift_91 ?_
      refine q_idiv (by omega) (by omega) (by omega) d_Mo_lift_93 ?_
      refine q_topi (show _ = (mr σ m i k * 2 ^ (p % 16) + c) / 65536 from Int.tdiv_eq_ediv_of_nonneg r3.1) ?_
      refine q_ist_7 d_Mo_lift_94 (by decide) rfl ?_
      refine q_iinc_8 d_Mo_lift_96 (by decide) rfl ?_
      refine q_goto (tgt := 52) d_Mo_lift_99 (by decide) ?_
      refine q_drop_9 ?_
      refine ih (k + 1) (by omega) _ _ (fun q hq => by rw [q_up_a _ _ hq]; exact f1 q hq) (fun u hu => if e : u = k + p / 16 then by subst e; rw [q_up_self]; omega else by rw [q_up_k _ _ e]; exact f2 u (by omega)) ?_ (by omega) _ (by omega)
      rw [show k + 1 + p / 16 = (k + p / 16) + 1 by omega, dv_step (s := mr σ m i k * 2 ^ (p % 16)) f3 (fun u hu => q_up_k _ _ (by omega)) (by rw [q_up_self]; omega), dv_s, Int.pow_add]
      grind
  have loop1 : ∀ (d k : Nat), k + d = p / 16 → ∀ (σ1 : q_S), (∀ q, q ≠ m + 9 → σ1 q = σ q) → (∀ u, u < k → σ1 (m + 9) u = 0) → ∀ t : Int, t = k → q_T l K L R_Mo b_Mo_lift 10 none 2 (fun v σ' => v = none ∧ rV σ' m r (x * 2 ^ p) ∧ rO σ σ' m ∧ ∀ j, j ≠ r → rE σ σ' m j) 25 [some (.ref m), some (vi r), some (vi i), some (vi p), some (vi ((p / 16 : Nat) : Int)), some (vi (2 ^ (p % 16))), some (vi (n : Int)), some (vi t), none, none] [] σ1 := by
    intro d
    induction d with
    | zero =>
      intro k hk σ1 f1 f2 t ht
      refine q_iload d_Mo_lift_25 rfl ?_
      refine q_iload d_Mo_lift_27 rfl ?_
      refine q_icmp_ge (tgt := 46) (by omega) (by omega) d_Mo_lift_29 (by decide) (fun c29 => ?_) (fun c29 => absurd c29 (by omega))
      refine q_iconst d_Mo_lift_46 rfl ?_
      refine q_ist_7 d_Mo_lift_47 (by decide) rfl ?_
      refine q_iconst d_Mo_lift_49 rfl ?_
      refine q_ist_8 d_Mo_lift_50 (by decide) rfl ?_
      exact loop2 n 0 (by omega) σ1 0 f1 (fun u hu => by rw [f2 u (by omega)]; omega) (by rw [dv_zero (fun u hu => f2 u (by omega))]; simp [dv]) (by omega) _ rfl
    | succ d ih =>
      intro k hk σ1 f1 f2 t ht
      refine q_iload d_Mo_lift_25 rfl ?_
      refine q_iload d_Mo_lift_27 rfl ?_
      refine q_icmp_ge (tgt := 46) (by omega) (by omega) d_Mo_lift_29 (by decide) (fun c29 => absurd c29 (by omega)) (fun c29 => ?_)
      refine q_aload_n d_Mo_lift_32 rfl ?_
      refine q_gr (by assumption) pc_Mo 10 (by decide) w_fl_Mo_36 rfl (by rfl) d_Mo_lift_33 ?_
      refine q_iload d_Mo_lift_36 rfl ?_
      refine q_iconst d_Mo_lift_38 rfl ?_
      refine q_ias (k) (by assumption) (by omega) (by omega) (by omega) d_Mo_lift_39 ?_
      refine q_iinc_7 d_Mo_lift_40 (by decide) rfl ?_
      refine q_goto (tgt := 25) d_Mo_lift_43 (by decide) ?_
      exact ih (k + 1) (by omega) _ (fun q hq => by rw [q_up_a _ _ hq]; exact f1 q hq) (fun u hu => if e : u = k then by subst e; exact q_up_self _ _ _ _ else (q_up_k _ _ e).trans (f2 u (by omega))) _ (by omega)
  refine q_iload_n d_Mo_lift_0 rfl ?_
  refine q_bipush d_Mo_lift_1 (by decide) ?_
  refine q_idiv (by omega) (by omega) (by omega) d_Mo_lift_3 ?_
  refine q_topi (show _ = ((p / 16 : Nat) : Int) from rfl) ?_
  refine q_ist_4 d_Mo_lift_4 (by decide) rfl ?_
  refine q_iconst d_Mo_lift_6 rfl ?_
  refine q_iload_n d_Mo_lift_7 rfl ?_
  refine q_bipush d_Mo_lift_8 (by decide) ?_
  refine q_irem (by omega) (by omega) (by omega) d_Mo_lift_10 ?_
  refine q_topi (show _ = ((p % 16 : Nat) : Int) from rfl) ?_
  refine q_ishl (z := 2 ^ (p % 16)) (q_ishl1 (Nat.mod_lt p (by decide))) d_Mo_lift_11 ?_
  refine q_ist_5 d_Mo_lift_12 (by decide) rfl ?_
  refine q_aload_n d_Mo_lift_14 rfl ?_
  refine q_gr (by assumption) pc_Mo 2 (by decide) w_fl_Mo_14 rfl (by rfl) d_Mo_lift_15 ?_
  refine q_iload_n d_Mo_lift_18 rfl ?_
  refine q_ial (i) (by assumption) (by omega) (by omega) (by omega) d_Mo_lift_19 ?_
  refine q_topi h1 ?_
  refine q_ist_6 d_Mo_lift_20 (by decide) rfl ?_
  refine q_iconst d_Mo_lift_22 rfl ?_
  refine q_ist_7 d_Mo_lift_23 (by decide) rfl ?_
  exact loop1 (p / 16) 0 (by omega) σ (fun q _ => rfl) (fun u hu => by omega) _ rfl
