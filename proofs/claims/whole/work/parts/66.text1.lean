/-! TEXT: eightFrom -/
theorem q_land255 (x : Int) : Int64.ofInt x &&& Int64.ofInt 255 = Int64.ofInt (x % 256) := by
  apply Int64.toBitVec_inj.mp
  rw [Int64.toBitVec_and, Int64.toBitVec_ofInt, Int64.toBitVec_ofInt, Int64.toBitVec_ofInt]
  apply BitVec.eq_of_toNat_eq
  rw [BitVec.toNat_and, BitVec.toNat_ofInt, BitVec.toNat_ofInt, BitVec.toNat_ofInt, show ((255 : Int) % ((2 ^ 64 : Nat) : Int)).toNat = 2 ^ 8 - 1 by decide, Nat.and_two_pow_sub_one_eq_mod]
  omega
theorem q_lor_up {u v : Int} {p : Nat} (hu : 0 ≤ u ∧ u < 2 ^ p) (hv : 0 ≤ v) (hs : u + v * 2 ^ p < 9223372036854775808) : Int64.ofInt u ||| Int64.ofInt (v * 2 ^ p) = Int64.ofInt (u + v * 2 ^ p) := by
  have hp := ip_pos (B := 2) (by decide) p
  rw [Int64.or_comm, Int.add_comm]
  exact q_lor_eq (p := p) (Int.mul_nonneg hv (by omega)) hu.1 hu.2 (Int.mul_emod_left v (2 ^ p)) (by omega)
set_option maxHeartbeats 4000000 in
set_option maxRecDepth 100000 in
theorem c_Tx_eightFrom (l : Launch) (K : pw_K) {L : q_L} {σ : q_S} {a k n : Nat} (hL : txL L a) (hn : σ a 3 = n) (hn1 : n ≤ 128) (hk : k < n) (hb : ∀ i, i < n → 0 ≤ σ (a + 1) i ∧ σ (a + 1) i < 128) : q_C l K L y_Tx_eightFrom b_Tx_eightFrom 5 (some .long) 0 [.ref a, vi (k : Int)] σ (fun v σ' => v = some (vl (dv 256 (fun i => σ (a + 1) (k + i)) (min 8 (n - k)))) ∧ σ' = σ) := by
  refine q_start [some (.ref a), some (vi (k : Int)), none, none, none] (by decide) (Nat.le_of_ble_eq_true rfl) (fun q h => h) ?_
  have loop : ∀ (d i : Nat), i + d = min 8 (n - k) → ∀ t : Int, t = i → q_T l K L R_Tx b_Tx_eightFrom 5 (some .long) 0 (fun v σ' => v = some (vl (dv 256 (fun i => σ (a + 1) (k + i)) (min 8 (n - k)))) ∧ σ' = σ) 5 [some (.ref a), some (vi (k : Int)), some (vl (dv 256 (fun i => σ (a + 1) (k + i)) i)), none, some (vi t)] [] σ := by
    intro d
    induction d with
    | zero =>
      intro i hi t ht
      refine q_iload d_Tx_eightFrom_5 rfl ?_
      refine q_bipush d_Tx_eightFrom_7 (by decide) ?_
      refine q_icmp_ge (tgt := 52) (by omega) (by omega) d_Tx_eightFrom_9 (by decide) (fun c8 => ?_) (fun c8 => ?_)
      · refine q_lload_n d_Tx_eightFrom_52 rfl ?_
        exact q_lret rfl (⟨by rw [show min 8 (n - k) = i by omega], rfl⟩) d_Tx_eightFrom_53
      · refine q_iload_n d_Tx_eightFrom_12 rfl ?_
        refine q_iload d_Tx_eightFrom_13 rfl ?_
        refine q_iadd d_Tx_eightFrom_15 ?_
        refine q_aload_n d_Tx_eightFrom_16 rfl ?_
        refine q_gi hL.1 pc_Tx 3 (by decide) w_fl_Tx_38 rfl (by rfl) d_Tx_eightFrom_17 ?_
        refine q_topi hn ?_
        refine q_icmp_ge (tgt := 52) (by omega) (by omega) d_Tx_eightFrom_20 (by decide) (fun c20 => ?_) (fun c20 => absurd c20 (by omega))
        refine q_lload_n d_Tx_eightFrom_52 rfl ?_
        exact q_lret rfl (⟨by rw [show min 8 (n - k) = i by omega], rfl⟩) d_Tx_eightFrom_53
    | succ d ih =>
      intro i hi t ht
      refine q_iload d_Tx_eightFrom_5 rfl ?_
      refine q_bipush d_Tx_eightFrom_7 (by decide) ?_
      refine q_icmp_ge (tgt := 52) (by omega) (by omega) d_Tx_eightFrom_9 (by decide) (fun c9 => absurd c9 (by omega)) (fun c9 => ?_)
      refine q_iload_n d_Tx_eightFrom_12 rfl ?_
      refine q_iload d_Tx_eightFrom_13 rfl ?_
      refine q_iadd d_Tx_eightFrom_15 ?_
      refine q_aload_n d_Tx_eightFrom_16 rfl ?_
      refine q_gi hL.1 pc_Tx 3 (by decide) w_fl_Tx_38 rfl (by rfl) d_Tx_eightFrom_17 ?_
      refine q_topi hn ?_
      refine q_icmp_ge (tgt := 52) (by omega) (by omega) d_Tx_eightFrom_20 (by decide) (fun c20 => absurd c20 (by omega)) (fun c20 => ?_)
      have r1 := hb (k + i) (by omega)
      have r2 := dv_range (B := 256) (by decide) (g := fun i => σ (a + 1) (k + i)) (n := i) (fun j hj => by have := hb (k + j) (by omega); omega)
      have e8 : (256 : Int) ^ i = 2 ^ (8 * i) := by rw [show (256 : Int) = 2 ^ 8 by decide, ← Int.pow_mul]
      have r3 := ip_le (B := 2) (by decide) (show 8 * i ≤ 56 by omega)
      rw [show (2 : Int) ^ 56 = 72057594037927936 by decide] at r3
      have r4 := Int.mul_le_mul_of_nonneg_right (show σ (a + 1) (k + i) ≤ 127 by omega) (Int.le_of_lt (ip_pos (B := 2) (by decide) (8 * i)))
      refine q_lload_n d_Tx_eightFrom_23 rfl ?_
      refine q_aload_n d_Tx_eightFrom_24 rfl ?_
      refine q_gr hL.1 pc_Tx 0 (by decide) w_fl_Tx_9 rfl (by rfl) d_Tx_eightFrom_25 ?_
      refine q_iload_n d_Tx_eightFrom_28 rfl ?_
      refine q_iload d_Tx_eightFrom_29 rfl ?_
      refine q_iadd d_Tx_eightFrom_31 ?_
      refine q_bal (k + i) hL.2.1 (by omega) (by omega) (by omega) d_Tx_eightFrom_32 ?_
      refine q_i2l (by omega) d_Tx_eightFrom_33 ?_
      refine q_ldc2 (z := 255) w_kl_Tx_41 (by decide) d_Tx_eightFrom_34 ?_
      refine q_land (z := σ (a + 1) (k + i)) ((q_land255 _).trans (by rw [Int.emod_eq_of_lt r1.1 (by omega)])) d_Tx_eightFrom_37 ?_
      refine q_bipush d_Tx_eightFrom_38 (by decide) ?_
      refine q_iload d_Tx_eightFrom_40 rfl ?_
      refine q_imul d_Tx_eightFrom_42 ?_
      refine q_topi (show _ = ((8 * i : Nat) : Int) by omega) ?_
      refine q_lshl (z := σ (a + 1) (k + i) * 2 ^ (8 * i)) (q_lshl_eq _ (by omega)) d_Tx_eightFrom_43 ?_
      refine q_lor (z := dv 256 (fun i => σ (a + 1) (k + i)) (i + 1)) (by rw [dv_s, e8]; exact q_lor_up (by rw [← e8]; exact r2) r1.1 (by omega)) d_Tx_eightFrom_44 ?_
      refine q_lst_n_2 d_Tx_eightFrom_45 (by decide) rfl ?_
      refine q_iinc_4 d_Tx_eightFrom_46 (by decide) rfl ?_
      refine q_goto (tgt := 5) d_Tx_eightFrom_49 (by decide) ?_
      exact ih (i + 1) (by omega) _ (by omega)
  refine q_lconst (z := 0) d_Tx_eightFrom_0 (by decide) ?_
  refine q_lst_n_2 d_Tx_eightFrom_1 (by decide) rfl ?_
  refine q_iconst d_Tx_eightFrom_2 rfl ?_
  refine q_ist_4 d_Tx_eightFrom_3 (by decide) rfl ?_
  exact loop (min 8 (n - k)) 0 (by omega) _ rfl
