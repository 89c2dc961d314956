/-! OUT, of the class and of the reference -/
set_option maxHeartbeats 4000000 in
set_option maxRecDepth 100000 in
theorem q_D_out (l : Launch) (K : pw_K) {L : q_L} {σ : q_S} {x k n : Nat} (hL : dL L x) (hn : σ (x + 612) 3 = n) (hn1 : n ≤ 128) (hk : k < n) (hb : ∀ i, i < n → 0 ≤ σ (x + 612 + 1) i ∧ σ (x + 612 + 1) i < 128) : q_C l K L y_D_out b_D_out 2 (some .long) 1 [.ref x, vi (k : Int)] σ (fun v σ' => v = some (vl (dv 256 (fun i => σ (x + 612 + 1) (k + i)) (min 8 (n - k)))) ∧ σ' = σ) := by
  obtain ⟨hd0, -, -, -, -, htx⟩ := hL
  refine q_start [some (.ref x), some (vi (k : Int))] (by decide) (Nat.le_of_ble_eq_true rfl) (fun q h => h) ?_
  refine q_iload_n d_D_out_0 rfl ?_
  refine q_if_lt (tgt := 15) (by omega) d_D_out_1 (by decide) (fun c1 => absurd c1 (by omega)) (fun c1 => ?_)
  refine q_iload_n d_D_out_4 rfl ?_
  refine q_aload_n d_D_out_5 rfl ?_
  refine q_gr hd0 pc_D 3 (by decide) w_fl_D_33 rfl (by rfl) d_D_out_6 ?_
  refine q_gi htx.1 pc_Tx 3 (by decide) w_fl_D_161 rfl (by rfl) d_D_out_9 ?_
  refine q_topi hn ?_
  refine q_icmp_lt (tgt := 25) (by omega) (by omega) d_D_out_12 (by decide) (fun c12 => ?_) (fun c12 => absurd c12 (by omega))
  refine q_aload_n d_D_out_25 rfl ?_
  refine q_gr hd0 pc_D 3 (by decide) w_fl_D_33 rfl (by rfl) d_D_out_26 ?_
  refine q_iload_n d_D_out_29 rfl ?_
  refine q_callV (As := [vi (k : Int)]) (c_Tx_eightFrom l K htx hn hn1 hk hb) w_cd_Tx_eightFrom w_ini_Tx w_ml_D_169 w_im_Tx_eightFrom w_se_Tx_eightFrom htx.1 rfl hd_Tx_eightFrom rfl (Nat.le_of_ble_eq_true rfl) d_D_out_30 (by decide) (by decide) (fun v σ9 hp => ?_)
  obtain ⟨rfl, hσ⟩ := hp
  rw [hσ]
  clear hσ σ9
  exact q_lret rfl (⟨rfl, rfl⟩) d_D_out_33
set_option maxHeartbeats 4000000 in
set_option maxRecDepth 100000 in
theorem q_Mo_out (l : Launch) (K : pw_K) {L : q_L} {σ : q_S} {m k n : Nat} (hL : mL L m) (hn : σ m 9 = n) (hn1 : n ≤ 400) (hk : k < n) (hb : ∀ i, i < n → 0 ≤ σ (m + 8) i ∧ σ (m + 8) i < 128) : q_C l K L y_Mo_out b_Mo_out 5 (some .long) 1 [.ref m, vi (k : Int)] σ (fun v σ' => v = some (vl (dv 256 (fun i => σ (m + 8) (k + i)) (min 8 (n - k)))) ∧ σ' = q_up σ m 0 0) := by
  obtain ⟨hM0, hM1, hM2, hM3, hM4, hM5, hM6, hM7, hM8, hM9⟩ := hL
  refine q_start [some (.ref m), some (vi (k : Int)), none, none, none] (by decide) (Nat.le_of_ble_eq_true rfl) (fun q h => h) ?_
  have loop : ∀ (d i : Nat), i + d = min 8 (n - k) → ∀ t : Int, t = i → q_T l K L R_Mo b_Mo_out 5 (some .long) 1 (fun v σ' => v = some (vl (dv 256 (fun i => σ (m + 8) (k + i)) (min 8 (n - k)))) ∧ σ' = q_up σ m 0 0) 36 [some (.ref m), some (vi (k : Int)), some (vl (dv 256 (fun i => σ (m + 8) (k + i)) i)), none, some (vi t)] [] (q_up σ m 0 0) := by
    intro d
    induction d with
    | zero =>
      intro i hi t ht
      refine q_iload d_Mo_out_36 rfl ?_
      refine q_bipush d_Mo_out_38 (by decide) ?_
      refine q_icmp_ge (tgt := 79) (by omega) (by omega) d_Mo_out_40 (by decide) (fun c8 => ?_) (fun c8 => ?_)
      · refine q_lload_n d_Mo_out_79 rfl ?_
        exact q_lret rfl (⟨by rw [show min 8 (n - k) = i by omega], rfl⟩) d_Mo_out_80
      · refine q_iload_n d_Mo_out_43 rfl ?_
        refine q_iload d_Mo_out_44 rfl ?_
        refine q_iadd d_Mo_out_46 ?_
        refine q_aload_n d_Mo_out_47 rfl ?_
        refine q_gi (by assumption) pc_Mo 9 (by decide) w_fl_Mo_198 rfl (by rfl) d_Mo_out_48 ?_
        refine q_topi (show _ = (n : Int) by rw [q_up_k _ _ (by omega)]; exact hn) ?_
        refine q_icmp_ge (tgt := 79) (by omega) (by omega) d_Mo_out_51 (by decide) (fun c51 => ?_) (fun c51 => absurd c51 (by omega))
        refine q_lload_n d_Mo_out_79 rfl ?_
        exact q_lret rfl (⟨by rw [show min 8 (n - k) = i by omega], rfl⟩) d_Mo_out_80
    | succ d ih =>
      intro i hi t ht
      refine q_iload d_Mo_out_36 rfl ?_
      refine q_bipush d_Mo_out_38 (by decide) ?_
      refine q_icmp_ge (tgt := 79) (by omega) (by omega) d_Mo_out_40 (by decide) (fun c40 => absurd c40 (by omega)) (fun c40 => ?_)
      refine q_iload_n d_Mo_out_43 rfl ?_
      refine q_iload d_Mo_out_44 rfl ?_
      refine q_iadd d_Mo_out_46 ?_
      refine q_aload_n d_Mo_out_47 rfl ?_
      refine q_gi (by assumption) pc_Mo 9 (by decide) w_fl_Mo_198 rfl (by rfl) d_Mo_out_48 ?_
      refine q_topi (show _ = (n : Int) by rw [q_up_k _ _ (by omega)]; exact hn) ?_
      refine q_icmp_ge (tgt := 79) (by omega) (by omega) d_Mo_out_51 (by decide) (fun c51 => absurd c51 (by omega)) (fun c51 => ?_)
      have r1 := hb (k + i) (by omega)
      have r2 := dv_range (B := 256) (by decide) (g := fun i => σ (m + 8) (k + i)) (n := i) (fun j hj => by have := hb (k + j) (by omega); omega)
      have e8 : (256 : Int) ^ i = 2 ^ (8 * i) := by rw [show (256 : Int) = 2 ^ 8 by decide, ← Int.pow_mul]
      have r3 := ip_le (B := 2) (by decide) (show 8 * i ≤ 56 by omega)
      rw [show (2 : Int) ^ 56 = 72057594037927936 by decide] at r3
      have r4 := Int.mul_le_mul_of_nonneg_right (show σ (m + 8) (k + i) ≤ 127 by omega) (Int.le_of_lt (ip_pos (B := 2) (by decide) (8 * i)))
      refine q_lload_n d_Mo_out_54 rfl ?_
      refine q_aload_n d_Mo_out_55 rfl ?_
      refine q_gr (by assumption) pc_Mo 8 (by decide) w_fl_Mo_33 rfl (by rfl) d_Mo_out_56 ?_
      refine q_iload_n d_Mo_out_59 rfl ?_
      refine q_iload d_Mo_out_60 rfl ?_
      refine q_iadd d_Mo_out_62 ?_
      refine q_ial (k + i) (by assumption) (by omega) (by omega) (by omega) d_Mo_out_63 ?_
      refine q_topi (show _ = σ (m + 8) (k + i) by rw [q_up_a _ _ (by omega)]) ?_
      refine q_i2l (by omega) d_Mo_out_64 ?_
      refine q_bipush d_Mo_out_65 (by decide) ?_
      refine q_iload d_Mo_out_67 rfl ?_
      refine q_imul d_Mo_out_69 ?_
      refine q_topi (show _ = ((8 * i : Nat) : Int) by omega) ?_
      refine q_lshl (z := σ (m + 8) (k + i) * 2 ^ (8 * i)) (q_lshl_eq _ (by omega)) d_Mo_out_70 ?_
      refine q_lor (z := dv 256 (fun i => σ (m + 8) (k + i)) (i + 1)) (by rw [dv_s, e8]; exact q_lor_up (by rw [← e8]; exact r2) r1.1 (by omega)) d_Mo_out_71 ?_
      refine q_lst_n_2 d_Mo_out_72 (by decide) rfl ?_
      refine q_iinc_4 d_Mo_out_73 (by decide) rfl ?_
      refine q_goto (tgt := 36) d_Mo_out_76 (by decide) ?_
      exact ih (i + 1) (by omega) _ (by omega)
  refine q_aload_n d_Mo_out_0 rfl ?_
  refine q_iload_n d_Mo_out_1 rfl ?_
  refine q_i2l (by omega) d_Mo_out_2 ?_
  refine q_lconst (z := 0) d_Mo_out_3 (by decide) ?_
  refine q_aload_n d_Mo_out_4 rfl ?_
  refine q_gi (by assumption) pc_Mo 9 (by decide) w_fl_Mo_198 rfl (by rfl) d_Mo_out_5 ?_
  refine q_topi hn ?_
  refine q_iconst d_Mo_out_8 rfl ?_
  refine q_isub d_Mo_out_9 ?_
  refine q_i2l (by omega) d_Mo_out_10 ?_
  refine q_callS (As := [vl (k : Int), vl 0, vl ((n : Int) - 1)]) (q_Mo_in l K L _ (by omega) (by omega) (by omega)) w_cd_Mo_in w_ini_Mo w_ml_Mo_140 w_st_Mo_in hd_Mo_in rfl (Nat.le_of_ble_eq_true rfl) d_Mo_out_11 (by decide) (by decide) (fun v σ1 hp => ?_)
  obtain ⟨rfl, hσ⟩ := hp
  rw [hσ]
  clear hσ σ1
  refine q_topi (if_pos (by omega)) ?_
  refine q_if_ne (tgt := 21) (by omega) d_Mo_out_14 (by decide) (fun c14 => ?_) (fun c14 => absurd c14 (by omega))
  refine q_iconst d_Mo_out_21 rfl ?_
  refine q_iconst d_Mo_out_22 rfl ?_
  refine q_callV (As := [vi 0, vi 1]) (q_Mo_fails0 l K _ ⟨hM0, hM1, hM2, hM3, hM4, hM5, hM6, hM7, hM8, hM9⟩) w_cd_Mo_fails w_ini_Mo w_ml_Mo_146 w_im_Mo_fails w_se_Mo_fails (by assumption) rfl hd_Mo_fails rfl (Nat.le_of_ble_eq_true rfl) d_Mo_out_23 (by decide) (by decide) (fun v σ3 hp => ?_)
  obtain ⟨rfl, hσ⟩ := hp
  rw [hσ]
  clear hσ σ3
  refine q_if_eq (tgt := 31) (by omega) d_Mo_out_26 (by decide) (fun c26 => ?_) (fun c26 => absurd c26 (by omega))
  refine q_lconst (z := 0) d_Mo_out_31 (by decide) ?_
  refine q_lst_n_2 d_Mo_out_32 (by decide) rfl ?_
  refine q_iconst d_Mo_out_33 rfl ?_
  refine q_ist_4 d_Mo_out_34 (by decide) rfl ?_
  exact loop (min 8 (n - k)) 0 (by omega) _ rfl
