/-! THE REFERENCE: against by magnitudes, lessens -/
/-- row r is worth X, whatever its sign says -/
def rM (σ : q_S) (m r : Nat) (X : Int) : Prop := ∃ (n : Nat) (s : Int), rU σ m r n X s ∧ (0 < n → mr σ m r (n - 1) ≠ 0)
theorem rV.m {σ : q_S} {m r : Nat} {x : Int} (h : rV σ m r x) : rM σ m r x.natAbs := by
  obtain ⟨n, hu, ht⟩ := h
  exact ⟨n, _, hu, ht⟩
theorem rM.mv {σ σ' : q_S} {m r : Nat} {X : Int} (h : rM σ m r X) (g : rE σ σ' m r) : rM σ' m r X := by
  obtain ⟨n, s, hu, ht⟩ := h
  exact ⟨n, s, hu.mv g, fun h0 => by rw [g.1 _ (by have := hu.2.2.1; omega)]; exact ht h0⟩
set_option maxHeartbeats 4000000 in
set_option maxRecDepth 100000 in
theorem c_Mo_againstM (l : Launch) (K : pw_K) {L : q_L} {σ : q_S} {m i j : Nat} {X Y : Int} (hL : mL L m) (hi : i < 160) (hj : j < 160) (hx : rM σ m i X) (hy : rM σ m j Y) : q_C l K L y_Mo_against b_Mo_against 4 (some .int) 1 [.ref m, vi i, vi j] σ (fun v σ' => v = some (vi (X - Y).sign) ∧ σ' = σ) := by
  obtain ⟨hM0, hM1, hM2, hM3, hM4, hM5, hM6, hM7, hM8, hM9⟩ := hL
  obtain ⟨n, s1, ⟨h1, h2, h3, h4, h5⟩, ht⟩ := hx
  obtain ⟨n', s2, ⟨g1, g2, g3, g4, g5⟩, gt⟩ := hy
  refine q_start [some (.ref m), some (vi i), some (vi j), none] (by decide) (Nat.le_of_ble_eq_true rfl) (fun q h => h) ?_
  have loop : ∀ {n : Nat}, (∀ k, k < n → 0 ≤ mr σ m i k ∧ mr σ m i k < 65536) → (∀ k, k < n → 0 ≤ mr σ m j k ∧ mr σ m j k < 65536) → dv 65536 (mr σ m i) n = X → dv 65536 (mr σ m j) n = Y → σ (m + 2) i = n → σ (m + 2) j = n → n ≤ 1024 → ∀ k : Nat, (∀ u, k ≤ u → u < n → mr σ m i u = mr σ m j u) → k ≤ n → ∀ t : Int, t = k - 1 → q_T l K L R_Mo b_Mo_against 4 (some .int) 1 (fun v σ' => v = some (vi (X - Y).sign) ∧ σ' = σ) 45 [some (.ref m), some (vi i), some (vi j), some (vi t)] [] σ := by
    clear h1 h2 h3 h4 h5 ht g1 g2 g3 g4 g5 gt n n'
    intro n h4 g4 h5 g5 h1 g1 h3 k
    induction k with
    | zero =>
      intro hEq hk t ht
      refine q_iload_n d_Mo_against_45 rfl ?_
      refine q_if_lt (tgt := 91) (by omega) d_Mo_against_46 (by decide) (fun c46 => ?_) (fun c46 => absurd c46 (by omega))
      refine q_iconst d_Mo_against_91 rfl ?_
      exact q_iret rfl (⟨by rw [sg_zero (by rw [← h5, ← g5]; exact dv_congr (fun u hu => hEq u (by omega) hu))], rfl⟩) d_Mo_against_92
    | succ k ih =>
      intro hEq hk t ht
      have ht : t = k := by omega
      refine q_iload_n d_Mo_against_45 rfl ?_
      refine q_if_lt (tgt := 91) (by omega) d_Mo_against_46 (by decide) (fun c46 => absurd c46 (by omega)) (fun c46 => ?_)
      have r1 := h4 k (by omega)
      have r2 := g4 k (by omega)
      have r1 := h4 k (by omega)
      have r2 := g4 k (by omega)
      refine q_aload_n d_Mo_against_49 rfl ?_
      refine q_iload_n d_Mo_against_50 rfl ?_
      refine q_iload_n d_Mo_against_51 rfl ?_
      refine q_callV (As := [vi i, vi t]) (by rw [ht]; exact c_Mo_at l K (r := i) (n := n) k ⟨hM0, hM1, hM2, hM3, hM4, hM5, hM6, hM7, hM8, hM9⟩ (by omega) h1 (by omega) (by omega)) w_cd_Mo_at w_ini_Mo w_ml_Mo_45 w_im_Mo_at w_se_Mo_at (by assumption) rfl hd_Mo_at rfl (Nat.le_of_ble_eq_true rfl) d_Mo_against_52 (by decide) (by decide) (fun v σ9 hp => ?_)
      obtain ⟨rfl, hσ⟩ := hp
      rw [hσ]
      clear hσ σ9
      refine q_topi (show _ = mr σ m i k from if_pos (by omega)) ?_
      refine q_aload_n d_Mo_against_55 rfl ?_
      refine q_iload_n d_Mo_against_56 rfl ?_
      refine q_iload_n d_Mo_against_57 rfl ?_
      refine q_callV (As := [vi j, vi t]) (by rw [ht]; exact c_Mo_at l K (r := j) (n := n) k ⟨hM0, hM1, hM2, hM3, hM4, hM5, hM6, hM7, hM8, hM9⟩ (by omega) g1 (by omega) (by omega)) w_cd_Mo_at w_ini_Mo w_ml_Mo_45 w_im_Mo_at w_se_Mo_at (by assumption) rfl hd_Mo_at rfl (Nat.le_of_ble_eq_true rfl) d_Mo_against_58 (by decide) (by decide) (fun v σ9 hp => ?_)
      obtain ⟨rfl, hσ⟩ := hp
      rw [hσ]
      clear hσ σ9
      refine q_topi (show _ = mr σ m j k from if_pos (by omega)) ?_
      refine q_icmp_eq (tgt := 85) (by omega) (by omega) d_Mo_against_61 (by decide) (fun ce => ?_) (fun ce => ?_)
      · refine q_iinc_3 d_Mo_against_85 (by decide) rfl ?_
        refine q_goto (tgt := 45) d_Mo_against_88 (by decide) ?_
        exact ih (fun u h6 h7 => if e : u = k then by rw [e]; exact ce else hEq u (by omega) h7) (by omega) _ (by omega)
      · refine q_aload_n d_Mo_against_64 rfl ?_
        refine q_iload_n d_Mo_against_65 rfl ?_
        refine q_iload_n d_Mo_against_66 rfl ?_
        refine q_callV (As := [vi i, vi t]) (by rw [ht]; exact c_Mo_at l K (r := i) (n := n) k ⟨hM0, hM1, hM2, hM3, hM4, hM5, hM6, hM7, hM8, hM9⟩ (by omega) h1 (by omega) (by omega)) w_cd_Mo_at w_ini_Mo w_ml_Mo_45 w_im_Mo_at w_se_Mo_at (by assumption) rfl hd_Mo_at rfl (Nat.le_of_ble_eq_true rfl) d_Mo_against_67 (by decide) (by decide) (fun v σ9 hp => ?_)
        obtain ⟨rfl, hσ⟩ := hp
        rw [hσ]
        clear hσ σ9
        refine q_topi (show _ = mr σ m i k from if_pos (by omega)) ?_
        refine q_aload_n d_Mo_against_70 rfl ?_
        refine q_iload_n d_Mo_against_71 rfl ?_
        refine q_iload_n d_Mo_against_72 rfl ?_
        refine q_callV (As := [vi j, vi t]) (by rw [ht]; exact c_Mo_at l K (r := j) (n := n) k ⟨hM0, hM1, hM2, hM3, hM4, hM5, hM6, hM7, hM8, hM9⟩ (by omega) g1 (by omega) (by omega)) w_cd_Mo_at w_ini_Mo w_ml_Mo_45 w_im_Mo_at w_se_Mo_at (by assumption) rfl hd_Mo_at rfl (Nat.le_of_ble_eq_true rfl) d_Mo_against_73 (by decide) (by decide) (fun v σ9 hp => ?_)
        obtain ⟨rfl, hσ⟩ := hp
        rw [hσ]
        clear hσ σ9
        refine q_topi (show _ = mr σ m j k from if_pos (by omega)) ?_
        refine q_icmp_ge (tgt := 83) (by omega) (by omega) d_Mo_against_76 (by decide) (fun cg => ?_) (fun cg => ?_)
        · refine q_iconst d_Mo_against_83 rfl ?_
          exact q_iret rfl (⟨by rw [sg_pos (by rw [← h5, ← g5]; exact dv_cmp_lt (by decide) (show k < n by omega) g4 h4 (fun u h6 h7 => (hEq u (by omega) h7).symm) (by omega))], rfl⟩) d_Mo_against_84
        · refine q_iconst d_Mo_against_79 rfl ?_
          refine q_goto (tgt := 84) d_Mo_against_80 (by decide) ?_
          exact q_iret rfl (⟨by rw [sg_neg (by rw [← h5, ← g5]; exact dv_cmp_lt (by decide) (show k < n by omega) h4 g4 (fun u h6 h7 => hEq u (by omega) h7) (by omega))], rfl⟩) d_Mo_against_84
  refine q_aload_n d_Mo_against_0 rfl ?_
  refine q_gr (by assumption) pc_Mo 2 (by decide) w_fl_Mo_14 rfl (by rfl) d_Mo_against_1 ?_
  refine q_iload_n d_Mo_against_4 rfl ?_
  refine q_ial (i) (by assumption) (by omega) (by omega) (by omega) d_Mo_against_5 ?_
  refine q_topi h1 ?_
  refine q_aload_n d_Mo_against_6 rfl ?_
  refine q_gr (by assumption) pc_Mo 2 (by decide) w_fl_Mo_14 rfl (by rfl) d_Mo_against_7 ?_
  refine q_iload_n d_Mo_against_10 rfl ?_
  refine q_ial (j) (by assumption) (by omega) (by omega) (by omega) d_Mo_against_11 ?_
  refine q_topi g1 ?_
  refine q_icmp_eq (tgt := 36) (by omega) (by omega) d_Mo_against_12 (by decide) (fun ce => ?_) (fun ce => ?_)
  · refine q_aload_n d_Mo_against_36 rfl ?_
    refine q_gr (by assumption) pc_Mo 2 (by decide) w_fl_Mo_14 rfl (by rfl) d_Mo_against_37 ?_
    refine q_iload_n d_Mo_against_40 rfl ?_
    refine q_ial (i) (by assumption) (by omega) (by omega) (by omega) d_Mo_against_41 ?_
    refine q_topi h1 ?_
    refine q_iconst d_Mo_against_42 rfl ?_
    refine q_isub d_Mo_against_43 ?_
    refine q_ist_n_3 d_Mo_against_44 (by decide) rfl ?_
    obtain rfl : n = n' := by omega
    exact loop h4 g4 h5 g5 h1 g1 h3 n (fun j h6 h7 => by omega) (Nat.le_refl n) _ (by omega)
  · refine q_aload_n d_Mo_against_15 rfl ?_
    refine q_gr (by assumption) pc_Mo 2 (by decide) w_fl_Mo_14 rfl (by rfl) d_Mo_against_16 ?_
    refine q_iload_n d_Mo_against_19 rfl ?_
    refine q_ial (i) (by assumption) (by omega) (by omega) (by omega) d_Mo_against_20 ?_
    refine q_topi h1 ?_
    refine q_aload_n d_Mo_against_21 rfl ?_
    refine q_gr (by assumption) pc_Mo 2 (by decide) w_fl_Mo_14 rfl (by rfl) d_Mo_against_22 ?_
    refine q_iload_n d_Mo_against_25 rfl ?_
    refine q_ial (j) (by assumption) (by omega) (by omega) (by omega) d_Mo_against_26 ?_
    refine q_topi g1 ?_
    refine q_icmp_ge (tgt := 34) (by omega) (by omega) d_Mo_against_27 (by decide) (fun cg => ?_) (fun cg => ?_)
    · refine q_iconst d_Mo_against_34 rfl ?_
      exact q_iret rfl (⟨by rw [sg_pos (by rw [← h5, ← g5]; exact dv_len_lt (by decide) (show n' < n by omega) g4 h4 (ht (by omega)))], rfl⟩) d_Mo_against_35
    · refine q_iconst d_Mo_against_30 rfl ?_
      refine q_goto (tgt := 35) d_Mo_against_31 (by decide) ?_
      exact q_iret rfl (⟨by rw [sg_neg (by rw [← h5, ← g5]; exact dv_len_lt (by decide) (show n < n' by omega) h4 g4 (gt (by omega)))], rfl⟩) d_Mo_against_35
set_option maxHeartbeats 4000000 in
set_option maxRecDepth 100000 in
theorem c_Mo_lessens (l : Launch) (K : pw_K) {L : q_L} {σ : q_S} {m r j : Nat} {X Y g : Int} (hL : mL L m) (hr : r < 160) (hj : j < 160) (hrj : j ≠ r) (hx : rM σ m r X) (hy : rM σ m j Y) (hg : 1 ≤ g ∧ g < 2147483648) (hgy : g * Y ≤ X) : q_C l K L y_Mo_lessens b_Mo_lessens 9 none 1 [.ref m, vi r, vi j, vi g] σ (fun v σ' => v = none ∧ rM σ' m r (X - g * Y) ∧ rO σ σ' m ∧ σ' (m + 9) = σ (m + 9) ∧ ∀ i, i ≠ r → rE σ σ' m i) := by
  obtain ⟨hM0, hM1, hM2, hM3, hM4, hM5, hM6, hM7, hM8, hM9⟩ := hL
  obtain ⟨n, s1, hU, ht0⟩ := hx
  obtain ⟨n', s2, hU', gt0⟩ := hy
  have hY0 : 0 ≤ Y := by
    obtain ⟨-, -, -, hd, hm⟩ := hU'
    rw [← hm]
    exact (dv_range (by decide) hd).1
  have hYX : Y ≤ X := by
    have := Int.mul_le_mul_of_nonneg_right hg.1 hY0
    omega
  have hnn : n' ≤ n := (hU'.le gt0).mpr (by have := (hU.le ht0 (k := n)).mp (Nat.le_refl n); omega)
  obtain ⟨h1, h2, h3, h4, h5⟩ := hU
  obtain ⟨g1, g2, g3, g4, g5⟩ := hU'
  refine q_start [some (.ref m), some (vi r), some (vi j), some (vi g), none, none, none, none, none] (by decide) (Nat.le_of_ble_eq_true rfl) (fun q h => h) ?_
  have loop : ∀ (d k : Nat), k + d = n → ∀ (σ1 : q_S) (ov : Int), (∀ q, q ≠ m + 1 → σ1 q = σ q) → (∀ u, k ≤ u → mr σ1 m r u = mr σ m r u) → (∀ i u, i ≠ r → u < 1024 → mr σ1 m i u = mr σ m i u) → (∀ u, u < k → 0 ≤ mr σ1 m r u ∧ mr σ1 m r u < 65536) → dv 65536 (mr σ1 m r) k + ov * 65536 ^ k = dv 65536 (mr σ m r) k - g * dv 65536 (pd (mr σ m j) n') k → (-g ≤ ov ∧ ov ≤ 0) → ∀ t : Int, t = k →  q_T l K L R_Mo b_Mo_lessens 9 none 1 (fun v σ' => v = none ∧ rM σ' m r (X - g * Y) ∧ rO σ σ' m ∧ σ' (m + 9) = σ (m + 9) ∧ ∀ i, i ≠ r → rE σ σ' m i) 6 [some (.ref m), some (vi r), some (vi j), some (vi g), some (vl ov), none, some (vi t), none, none] [] σ1 := by
    intro d
    induction d with
    | zero =>
      intro k hk σ1 ov f1 f2 f3 f4 f5 f6 t ht
      refine q_iload d_Mo_lessens_6 rfl ?_
      refine q_aload_n d_Mo_lessens_8 rfl ?_
      refine q_gr (by assumption) pc_Mo 2 (by decide) w_fl_Mo_14 rfl (by rfl) d_Mo_lessens_9 ?_
      refine q_iload_n d_Mo_lessens_12 rfl ?_
      refine q_ial (r) (by assumption) (by omega) (by omega) (by omega) d_Mo_lessens_13 ?_
      refine q_topi (show _ = (n : Int) by rw [f1 _ (by omega)]; exact h1) ?_
      refine q_icmp_ge (tgt := 95) (by omega) (by omega) d_Mo_lessens_14 (by decide) (fun c14 => ?_) (fun c14 => absurd c14 (by omega))
      refine q_aload_n d_Mo_lessens_95 rfl ?_
      refine q_iload_n d_Mo_lessens_96 rfl ?_
      refine q_aload_n d_Mo_lessens_97 rfl ?_
      refine q_gr (by assumption) pc_Mo 2 (by decide) w_fl_Mo_14 rfl (by rfl) d_Mo_lessens_98 ?_
      refine q_iload_n d_Mo_lessens_101 rfl ?_
      refine q_ial (r) (by assumption) (by omega) (by omega) (by omega) d_Mo_lessens_102 ?_
      refine q_topi (show _ = (n : Int) by rw [f1 _ (by omega)]; exact h1) ?_
      obtain rfl : k = n := by omega
      rw [dv_pd hnn, h5, g5] at f5
      have ho : ov = 0 := by
        rcases Int.lt_or_le ov 0 with h | h
        · exfalso
          have h7 := (dv_range (B := 65536) (by decide) f4).2
          have h8 := Int.mul_le_mul_of_nonneg_right (show ov ≤ -1 by omega) (Int.le_of_lt (ip_pos (B := 65536) (by decide) k))
          omega
        · omega
      rw [ho, Int.zero_mul, Int.add_zero] at f5
      refine q_callV (As := [vi r, vi (k : Int)]) (c_Mo_trim l K (N := k) ⟨hM0, hM1, hM2, hM3, hM4, hM5, hM6, hM7, hM8, hM9⟩ hr h3 f4) w_cd_Mo_trim w_ini_Mo w_ml_Mo_57 w_im_Mo_trim w_se_Mo_trim (by assumption) rfl hd_Mo_trim rfl (Nat.le_of_ble_eq_true rfl) d_Mo_lessens_103 (by decide) (by decide) (fun v σ2 hp => ?_)
      obtain ⟨rfl, ⟨n2, k1, k2⟩, k3, k4⟩ := hp
      rw [f5] at k1
      exact q_vret rfl (⟨rfl, ⟨n2, _, k1, k2⟩, fun q h6 h7 h8 h9 => by rw [k3 q h7 h8]; exact f1 q h6, by rw [k3 _ (by omega) (by omega)]; exact f1 _ (by omega), fun i hi => ⟨fun u hu => by show σ2 (m + 1) _ = _; rw [k3 _ (by omega) (by omega)]; exact f3 i u hi hu, by rw [(k4 i hi).1, f1 _ (by omega)], by rw [(k4 i hi).2, f1 _ (by omega)]⟩⟩) d_Mo_lessens_106
    | succ d ih =>
      intro k hk σ1 ov f1 f2 f3 f4 f5 f6 t ht
      refine q_iload d_Mo_lessens_6 rfl ?_
      refine q_aload_n d_Mo_lessens_8 rfl ?_
      refine q_gr (by assumption) pc_Mo 2 (by decide) w_fl_Mo_14 rfl (by rfl) d_Mo_lessens_9 ?_
      refine q_iload_n d_Mo_lessens_12 rfl ?_
      refine q_ial (r) (by assumption) (by omega) (by omega) (by omega) d_Mo_lessens_13 ?_
      refine q_topi (show _ = (n : Int) by rw [f1 _ (by omega)]; exact h1) ?_
      refine q_icmp_ge (tgt := 95) (by omega) (by omega) d_Mo_lessens_14 (by decide) (fun c14 => absurd c14 (by omega)) (fun c14 => ?_)
      have r1 := h4 k (by omega)
      have r2 := pd_r16 g4 k
      have r3 : 0 ≤ pd (mr σ m j) n' k * g ∧ pd (mr σ m j) n' k * g ≤ 65535 * g := ⟨Int.mul_nonneg r2.1 (by omega), Int.mul_le_mul_of_nonneg_right (by omega) (by omega)⟩
      obtain ⟨vv, hvv⟩ : ∃ vv : Int, vv = mr σ m r k - pd (mr σ m j) n' k * g + ov := ⟨_, rfl⟩
      have hpe : pd (mr σ1 m j) n' k = pd (mr σ m j) n' k := by
        unfold pd
        split
        · exact f3 j k (by omega) (by omega)
        · rfl
      refine q_aload_n d_Mo_lessens_17 rfl ?_
      refine q_iload_n d_Mo_lessens_18 rfl ?_
      refine q_iload d_Mo_lessens_19 rfl ?_
      refine q_callV (As := [vi r, vi t]) (by rw [ht]; exact c_Mo_at l K (r := r) (n := n) k ⟨hM0, hM1, hM2, hM3, hM4, hM5, hM6, hM7, hM8, hM9⟩ (by omega) (by rw [f1 _ (by omega)]; exact h1) (by omega) (by omega)) w_cd_Mo_at w_ini_Mo w_ml_Mo_45 w_im_Mo_at w_se_Mo_at (by assumption) rfl hd_Mo_at rfl (Nat.le_of_ble_eq_true rfl) d_Mo_lessens_21 (by decide) (by decide) (fun v σ9 hp => ?_)
      obtain ⟨rfl, hσ⟩ := hp
      rw [hσ]
      clear hσ σ9
      refine q_topi (show _ = mr σ m r k from (if_pos (by omega)).trans (f2 k (Nat.le_refl k))) ?_
      refine q_i2l (by omega) d_Mo_lessens_24 ?_
      refine q_aload_n d_Mo_lessens_25 rfl ?_
      refine q_iload_n d_Mo_lessens_26 rfl ?_
      refine q_iload d_Mo_lessens_27 rfl ?_
      refine q_callV (As := [vi j, vi t]) (by rw [ht]; exact c_Mo_at l K (r := j) (n := n') k ⟨hM0, hM1, hM2, hM3, hM4, hM5, hM6, hM7, hM8, hM9⟩ (by omega) (by rw [f1 _ (by omega)]; exact g1) (by omega) (by omega)) w_cd_Mo_at w_ini_Mo w_ml_Mo_45 w_im_Mo_at w_se_Mo_at (by assumption) rfl hd_Mo_at rfl (Nat.le_of_ble_eq_true rfl) d_Mo_lessens_29 (by decide) (by decide) (fun v σ9 hp => ?_)
      obtain ⟨rfl, hσ⟩ := hp
      rw [hσ]
      clear hσ σ9
      refine q_topi (show _ = pd (mr σ m j) n' k from hpe) ?_
      refine q_i2l (by omega) d_Mo_lessens_32 ?_
      refine q_iload_n d_Mo_lessens_33 rfl ?_
      refine q_i2l (by omega) d_Mo_lessens_34 ?_
      refine q_lmul d_Mo_lessens_35 ?_
      refine q_lsub d_Mo_lessens_36 ?_
      refine q_lload d_Mo_lessens_37 rfl ?_
      refine q_ladd d_Mo_lessens_39 ?_
      refine q_topl hvv.symm ?_
      refine q_lst_7 d_Mo_lessens_40 (by decide) rfl ?_
      refine q_lload d_Mo_lessens_42 rfl ?_
      refine q_lconst (z := 0) d_Mo_lessens_44 (by decide) ?_
      refine q_jnl2 (V := vv / 65536) 64 (fun jn => ?_) ?_
      · refine q_lcmp_ge (tgt := 63) (by omega) (by omega) d_Mo_lessens_45 d_Mo_lessens_46 (by decide) (fun cv => ?_) (fun cv => ?_)
        · refine q_lconst (z := 0) d_Mo_lessens_63 (by decide) ?_
          exact jn _ (by omega)
        · refine q_ldc2 (z := 65535) w_kl_Mo_67 (by decide) d_Mo_lessens_49 ?_
          refine q_lload d_Mo_lessens_52 rfl ?_
          refine q_lsub d_Mo_lessens_54 ?_
          refine q_ldc2 (z := 65536) w_kl_Mo_43 (by decide) d_Mo_lessens_55 ?_
          refine q_ldiv (by omega) (by omega) (by omega) d_Mo_lessens_58 ?_
          refine q_topl (show _ = (65535 - vv) / 65536 from Int.tdiv_eq_ediv_of_nonneg (by omega)) ?_
          refine q_lneg d_Mo_lessens_59 ?_
          refine q_goto (tgt := 64) d_Mo_lessens_60 (by decide) ?_
          exact jn _ (by omega)
      · refine q_lst_4 d_Mo_lessens_64 (by decide) rfl ?_
        refine q_aload_n d_Mo_lessens_66 rfl ?_
        refine q_gr (by assumption) pc_Mo 1 (by decide) w_fl_Mo_8 rfl (by rfl) d_Mo_lessens_67 ?_
        refine q_sipush d_Mo_lessens_70 (by decide) ?_
        refine q_iload_n d_Mo_lessens_73 rfl ?_
        refine q_imul d_Mo_lessens_74 ?_
        refine q_iload d_Mo_lessens_75 rfl ?_
        refine q_iadd d_Mo_lessens_77 ?_
        refine q_lload d_Mo_lessens_78 rfl ?_
        refine q_lload d_Mo_lessens_80 rfl ?_
        refine q_ldc2 (z := 65536) w_kl_Mo_43 (by decide) d_Mo_lessens_82 ?_
        refine q_lmul d_Mo_lessens_85 ?_
        refine q_lsub d_Mo_lessens_86 ?_
        refine q_topl (show _ = vv % 65536 by omega) ?_
        refine q_l2i d_Mo_lessens_87 ?_
        refine q_ias (1024 * r + k) (by assumption) (by omega) (by omega) (by omega) d_Mo_lessens_88 ?_
        refine q_iinc_6 d_Mo_lessens_89 (by decide) rfl ?_
        refine q_goto (tgt := 6) d_Mo_lessens_92 (by decide) ?_
        refine q_drop_7 ?_
        exact ih (k + 1) (by omega) _ _ (fun q h6 => by rw [q_up_a _ _ h6]; exact f1 q h6) (fun u hu => (mr_ne _ _ (by omega)).trans (f2 u (by omega))) (fun i u h6 h7 => (mr_ne _ _ (by omega)).trans (f3 i u h6 h7)) (fun u hu => if e : u = k then by subst e; rw [mr_up]; omega else by rw [mr_ne _ _ (by omega)]; exact f4 u (by omega)) (by
          rw [dv_step (c := ov) (t := vv / 65536) (s := mr σ m r k - pd (mr σ m j) n' k * g) f5 (fun u hu => mr_ne _ _ (by omega)) (by rw [mr_up]; omega), dv_s, dv_s]
          grind) (by omega) _ (by omega)
  refine q_lconst (z := 0) d_Mo_lessens_0 (by decide) ?_
  refine q_lst_4 d_Mo_lessens_1 (by decide) rfl ?_
  refine q_iconst d_Mo_lessens_3 rfl ?_
  refine q_ist_6 d_Mo_lessens_4 (by decide) rfl ?_
  exact loop n 0 (by omega) σ 0 (fun q _ => rfl) (fun u _ => rfl) (fun i u _ _ => rfl) (fun u hu => by omega) (by simp [dv]) (by omega) _ rfl
