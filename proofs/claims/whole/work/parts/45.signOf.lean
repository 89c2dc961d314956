/-! THE REFERENCE: set, signOf -/
theorem tm_sg {s ρ : Int} (h : s = 1 ∨ s = -1) (hρ : 0 ≤ ρ) : (s * ρ).tmod 65536 = s * (ρ % 65536) ∧ (s * ρ).tdiv 65536 = s * (ρ / 65536) := by
  rcases h with rfl | rfl
  · rw [Int.one_mul, Int.one_mul, Int.one_mul]
    exact ⟨Int.tmod_eq_emod_of_nonneg hρ, Int.tdiv_eq_ediv_of_nonneg hρ⟩
  · rw [show (-1 : Int) * ρ = -ρ by omega, Int.neg_tmod, Int.neg_tdiv, Int.tmod_eq_emod_of_nonneg hρ, Int.tdiv_eq_ediv_of_nonneg hρ]
    omega
theorem rU.top {σ : q_S} {m r n : Nat} {M s : Int} (h : rU σ m r n M s) (hm : 0 < n → 65536 ^ (n - 1) ≤ M) : 0 < n → mr σ m r (n - 1) ≠ 0 := by
  intro h0
  obtain ⟨j, rfl⟩ : ∃ j, n = j + 1 := ⟨n - 1, by omega⟩
  obtain ⟨-, -, -, hd, he⟩ := h
  exact dv_topnz (n := j) (by decide) hd (by rw [he]; exact hm h0)
theorem pow2_lt16 (p : Nat) : ((2 ^ p : Int).natAbs : Int) < 65536 ^ (p / 16 + 1) := by
  have h0 := ip_pos (B := 2) (by decide) p
  have h1 : (65536 : Int) ^ (p / 16 + 1) = 2 ^ (16 * (p / 16 + 1)) := by rw [show (65536 : Int) = 2 ^ 16 by decide, ← Int.pow_mul]
  have h2 := ip_le (B := 2) (by decide) (show p + 1 ≤ 16 * (p / 16 + 1) by omega)
  rw [Int.pow_succ] at h2
  omega
set_option maxHeartbeats 4000000 in
set_option maxRecDepth 100000 in
theorem q_Mo_set (l : Launch) (K : pw_K) {L : q_L} (σ : q_S) {m r : Nat} {v : Int} (hL : mL L m) (hr : r < 160) (hv : -9223372036854775808 ≤ v ∧ v < 9223372036854775808) : q_C l K L y_Mo_set b_Mo_set 9 none 0 [.ref m, vi r, vl v] σ (fun rr σ' => rr = none ∧ rV σ' m r v ∧ rO σ σ' m ∧ σ' (m + 9) = σ (m + 9) ∧ ∀ j, j ≠ r → rE σ σ' m j) := by
  obtain ⟨hM0, hM1, hM2, hM3, hM4, hM5, hM6, hM7, hM8, hM9⟩ := hL
  have hsv : v.sign * v.natAbs = v := Int.sign_mul_natAbs v
  refine q_start [some (.ref m), some (vi r), some (vl v), none, none, none, none, none, none] (by decide) (Nat.le_of_ble_eq_true rfl) (fun q h => h) ?_
  have loop : ∀ (d k : Nat), k + d = 4 → ∀ (σ1 : q_S) (ρ : Int), (∀ q, q ≠ m + 1 → q ≠ m + 3 → σ1 q = σ q) → σ1 (m + 3) r = v.sign → (∀ j, j ≠ r → σ1 (m + 3) j = σ (m + 3) j) → (∀ i j, i ≠ r → j < 1024 → mr σ1 m i j = mr σ m i j) → (∀ j, j < k → 0 ≤ mr σ1 m r j ∧ mr σ1 m r j < 65536) → dv 65536 (mr σ1 m r) k + ρ * 65536 ^ k = v.natAbs → (0 < k → 65536 ^ (k - 1) ≤ (v.natAbs : Int)) → 0 ≤ ρ → ∀ t : Int, t = k →  q_T l K L R_Mo b_Mo_set 9 none 0 (fun rr σ' => rr = none ∧ rV σ' m r v ∧ rO σ σ' m ∧ σ' (m + 9) = σ (m + 9) ∧ ∀ j, j ≠ r → rE σ σ' m j) 33 [some (.ref m), some (vi r), some (vl v), none, some (vl (v.sign * ρ)), none, some (vi t), none, none] [] σ1 := by
    intro d
    induction d with
    | zero =>
      intro k hk σ1 ρ f1 f2 f3 f4 f5 f6 f7 f8 t ht
      have hρ0 : ρ = 0 := by
        rcases Int.lt_or_le 0 ρ with h | h
        · have h7 := (dv_range (B := 65536) (by decide) f5).1
          have h8 := Int.mul_le_mul_of_nonneg_right (show 1 ≤ ρ by omega) (Int.le_of_lt (ip_pos (B := 65536) (by decide) k))
          obtain rfl : k = 4 := by omega
          rw [show (65536 : Int) ^ 4 = 18446744073709551616 by decide] at h8 f6
          omega
        · omega
      refine q_lload d_Mo_set_33 rfl ?_
      refine q_lconst (z := 0) d_Mo_set_35 (by decide) ?_
      refine q_lcmp_eq (tgt := 91) (by rw [hρ0]; omega) (by omega) d_Mo_set_36 d_Mo_set_37 (by decide) (fun c37 => ?_) (fun c37 => absurd c37 (not_not_intro (by rw [hρ0]; simp)))
      refine q_aload_n d_Mo_set_91 rfl ?_
      refine q_gr (by assumption) pc_Mo 2 (by decide) w_fl_Mo_14 rfl (by rfl) d_Mo_set_92 ?_
      refine q_iload_n d_Mo_set_95 rfl ?_
      refine q_iload d_Mo_set_96 rfl ?_
      refine q_topi ht ?_
      refine q_ias (r) (by assumption) (by omega) (by omega) (by omega) d_Mo_set_98 ?_
      have hmr : ∀ i j, mr (q_up σ1 (m + 2) r k) m i j = mr σ1 m i j := fun i j => mr_o _ _ (by omega)
      have hU : rU (q_up σ1 (m + 2) r k) m r k v.natAbs v.sign := ⟨q_up_self _ _ _ _, by rw [q_up_a _ _ (by omega)]; exact f2, by omega, fun j hj => by rw [hmr]; exact f5 j hj, by rw [dv_congr (h := mr σ1 m r) (fun j _ => hmr r j), ← f6, hρ0]; simp⟩
      exact q_vret rfl (⟨rfl, ⟨k, hU, hU.top f7⟩, fun q h6 h7 h8 h9 => by rw [q_up_a _ _ h7]; exact f1 q h6 h8, by rw [q_up_a _ _ (by omega)]; exact f1 _ (by omega) (by omega), fun j hj => ⟨fun u hu => by rw [hmr]; exact f4 j u hj hu, by rw [q_up_k _ _ hj]; rw [f1 _ (by omega) (by omega)], by rw [q_up_a _ _ (by omega)]; exact f3 j hj⟩⟩) d_Mo_set_99
    | succ d ih =>
      intro k hk σ1 ρ f1 f2 f3 f4 f5 f6 f7 f8 t ht
      have hρm : ρ ≤ v.natAbs := by
        have h7 := (dv_range (B := 65536) (by decide) f5).1
        have h8 := Int.mul_le_mul_of_nonneg_left (show 1 ≤ (65536 : Int) ^ k by have := ip_pos (B := 65536) (by decide) k; omega) f8
        omega
      refine q_lload d_Mo_set_33 rfl ?_
      refine q_lconst (z := 0) d_Mo_set_35 (by decide) ?_
      refine q_lcmp_eq (tgt := 91) (by have := sg3 v; rcases this with h | h | h <;> rw [h.2] <;> omega) (by omega) d_Mo_set_36 d_Mo_set_37 (by decide) (fun cl => ?_) (fun cl => ?_)
      · have hρ0 : ρ = 0 := by
          have hs := sg3 v
          rcases hs with h | h | h
          · rw [h.2] at cl; omega
          · have h7 := (dv_range (B := 65536) (by decide) f5).1
            have h8 := Int.mul_le_mul_of_nonneg_left (show 1 ≤ (65536 : Int) ^ k by have := ip_pos (B := 65536) (by decide) k; omega) f8
            omega
          · rw [h.2] at cl; omega
        refine q_aload_n d_Mo_set_91 rfl ?_
        refine q_gr (by assumption) pc_Mo 2 (by decide) w_fl_Mo_14 rfl (by rfl) d_Mo_set_92 ?_
        refine q_iload_n d_Mo_set_95 rfl ?_
        refine q_iload d_Mo_set_96 rfl ?_
        refine q_topi ht ?_
        refine q_ias (r) (by assumption) (by omega) (by omega) (by omega) d_Mo_set_98 ?_
        have hmr : ∀ i j, mr (q_up σ1 (m + 2) r k) m i j = mr σ1 m i j := fun i j => mr_o _ _ (by omega)
        have hU : rU (q_up σ1 (m + 2) r k) m r k v.natAbs v.sign := ⟨q_up_self _ _ _ _, by rw [q_up_a _ _ (by omega)]; exact f2, by omega, fun j hj => by rw [hmr]; exact f5 j hj, by rw [dv_congr (h := mr σ1 m r) (fun j _ => hmr r j), ← f6, hρ0]; simp⟩
        exact q_vret rfl (⟨rfl, ⟨k, hU, hU.top f7⟩, fun q h6 h7 h8 h9 => by rw [q_up_a _ _ h7]; exact f1 q h6 h8, by rw [q_up_a _ _ (by omega)]; exact f1 _ (by omega) (by omega), fun j hj => ⟨fun u hu => by rw [hmr]; exact f4 j u hj hu, by rw [q_up_k _ _ hj]; rw [f1 _ (by omega) (by omega)], by rw [q_up_a _ _ (by omega)]; exact f3 j hj⟩⟩) d_Mo_set_99
      · have hs : v.sign = 1 ∨ v.sign = -1 := by
          have hs := sg3 v
          rcases hs with h | h | h
          · exact Or.inl h.2
          · exact absurd (by rw [h.2]; simp) cl
          · exact Or.inr h.2
        obtain ⟨hm1, hm2⟩ := tm_sg hs f8
        have hr1 : -9223372036854775808 ≤ v.sign * ρ ∧ v.sign * ρ < 9223372036854775808 := by have := sg3 v; rcases this with h | h | h <;> rw [h.2] <;> omega
        have hρ1 : ρ ≠ 0 := fun h => cl (by rw [h]; simp)
        refine q_lload d_Mo_set_40 rfl ?_
        refine q_ldc2 (z := 65536) w_kl_Mo_43 (by decide) d_Mo_set_42 ?_
        refine q_lrem hr1 (by omega) (by omega) d_Mo_set_45 ?_
        refine q_topl hm1 ?_
        refine q_lst_7 d_Mo_set_46 (by decide) rfl ?_
        refine q_aload_n d_Mo_set_48 rfl ?_
        refine q_gr (by assumption) pc_Mo 1 (by decide) w_fl_Mo_8 rfl (by rfl) d_Mo_set_49 ?_
        refine q_sipush d_Mo_set_52 (by decide) ?_
        refine q_iload_n d_Mo_set_55 rfl ?_
        refine q_imul d_Mo_set_56 ?_
        refine q_iload d_Mo_set_57 rfl ?_
        refine q_iadd d_Mo_set_59 ?_
        refine q_lload d_Mo_set_60 rfl ?_
        refine q_lconst (z := 0) d_Mo_set_62 (by decide) ?_
        refine q_jnl2 (V := ρ % 65536) 75 (fun jn => ?_) ?_
        · refine q_lcmp_ge (tgt := 73) (by rcases hs with h | h <;> rw [h] <;> omega) (by omega) d_Mo_set_63 d_Mo_set_64 (by decide) (fun cw => ?_) (fun cw => ?_)
          · refine q_lload d_Mo_set_73 rfl ?_
            exact jn _ (by rcases hs with h | h <;> rw [h] at cw ⊢ <;> omega)
          · refine q_lload d_Mo_set_67 rfl ?_
            refine q_lneg d_Mo_set_69 ?_
            refine q_goto (tgt := 75) d_Mo_set_70 (by decide) ?_
            exact jn _ (by rcases hs with h | h <;> rw [h] at cw ⊢ <;> omega)
        · refine q_l2i d_Mo_set_75 ?_
          refine q_ias (1024 * r + k) (by assumption) (by omega) (by omega) (by omega) d_Mo_set_76 ?_
          refine q_lload d_Mo_set_77 rfl ?_
          refine q_ldc2 (z := 65536) w_kl_Mo_43 (by decide) d_Mo_set_79 ?_
          refine q_ldiv hr1 (by omega) (by omega) d_Mo_set_82 ?_
          refine q_topl hm2 ?_
          refine q_lst_4 d_Mo_set_83 (by decide) rfl ?_
          refine q_iinc_6 d_Mo_set_85 (by decide) rfl ?_
          refine q_goto (tgt := 33) d_Mo_set_88 (by decide) ?_
          refine q_drop_7 ?_
          have h9 := ip_pos (B := 65536) (by decide) k
          have h7 := (dv_range (B := 65536) (by decide) f5).1
          have h8 := Int.mul_le_mul_of_nonneg_right (show 1 ≤ ρ by omega) (Int.le_of_lt h9)
          exact ih (k + 1) (by omega) _ _ (fun q h6 h7 => by rw [q_up_a _ _ h6]; exact f1 q h6 h7) (by rw [q_up_a _ _ (by omega)]; exact f2) (fun j hj => by rw [q_up_a _ _ (by omega)]; exact f3 j hj) (fun i j h6 h7 => (mr_ne _ _ (by omega)).trans (f4 i j h6 h7)) (fun j hj => if e : j = k then by subst e; rw [mr_up]; omega else by rw [mr_ne _ _ (by omega)]; exact f5 j (by omega)) (by
            have := dv_step (B := 65536) (g := mr σ1 m r) (g' := mr (q_up σ1 (m + 1) (1024 * r + k) (ρ % 65536)) m r) (A := v.natAbs) (c := ρ) (s := 0) (t := ρ / 65536) f6 (fun j hj => mr_ne _ _ (by omega)) (by rw [mr_up]; omega)
            omega) (fun _ => by rw [Nat.add_sub_cancel]; omega) (by omega) _ (by omega)
  refine q_lload_n d_Mo_set_0 rfl ?_
  refine q_lst_4 d_Mo_set_1 (by decide) rfl ?_
  refine q_iconst d_Mo_set_3 rfl ?_
  refine q_ist_6 d_Mo_set_4 (by decide) rfl ?_
  refine q_aload_n d_Mo_set_6 rfl ?_
  refine q_gr (by assumption) pc_Mo 3 (by decide) w_fl_Mo_17 rfl (by rfl) d_Mo_set_7 ?_
  refine q_iload_n d_Mo_set_10 rfl ?_
  refine q_lload_n d_Mo_set_11 rfl ?_
  refine q_lconst (z := 0) d_Mo_set_12 (by decide) ?_
  refine q_jn2 (V := v.sign) 32 (fun jn => ?_) ?_
  · refine q_lcmp_ge (tgt := 21) hv (by omega) d_Mo_set_13 d_Mo_set_14 (by decide) (fun c14 => ?_) (fun c14 => ?_)
    · refine q_lload_n d_Mo_set_21 rfl ?_
      refine q_lconst (z := 0) d_Mo_set_22 (by decide) ?_
      refine q_lcmp_le (tgt := 31) hv (by omega) d_Mo_set_23 d_Mo_set_24 (by decide) (fun c24 => ?_) (fun c24 => ?_)
      · refine q_iconst d_Mo_set_31 rfl ?_
        exact jn _ (by have := sg3 v; omega)
      · refine q_iconst d_Mo_set_27 rfl ?_
        refine q_goto (tgt := 32) d_Mo_set_28 (by decide) ?_
        exact jn _ (by have := sg3 v; omega)
    · refine q_iconst d_Mo_set_17 rfl ?_
      refine q_goto (tgt := 32) d_Mo_set_18 (by decide) ?_
      exact jn _ (by have := sg3 v; omega)
  · refine q_ias (r) (by assumption) (by omega) (by omega) (by omega) d_Mo_set_32 ?_
    refine q_lvs (lv' := [some (.ref m), some (vi r), some (vl v), none, some (vl (v.sign * v.natAbs)), none, some (vi 0), none, none]) (fun q h => by rw [hsv] at h; exact h) ?_
    exact loop 4 0 (by omega) _ _ (fun q h6 h7 => q_up_a _ _ h7) (q_up_self _ _ _ _) (fun j hj => q_up_k _ _ hj) (fun i j _ _ => mr_o _ _ (by omega)) (fun j hj => by omega) (by simp [dv]) (fun h => by omega) (by omega) _ rfl
set_option maxHeartbeats 4000000 in
set_option maxRecDepth 100000 in
theorem c_Mo_signOf (l : Launch) (K : pw_K) {L : q_L} (σ : q_S) {m p w n ex u v c : Nat} {X : Int} {P : Nat → Int} (hL : mL L m) (hp : p < 10) (hw : w < 160) (hw1 : w ≠ 103) (hw2 : w ≠ 104) (hn : n ≤ 8) (hexr : ex < 100000) (hdeg : σ (m + 4) p = n) (hP : ∀ k, k ≤ n → rV σ m (9 * p + k) (P k)) (hX : rV σ m w X) (hXb : (X.natAbs : Int) < 65536 ^ v) (hPb : ∀ k, k ≤ n → ((P k).natAbs : Int) < 65536 ^ c) (hH : ∀ i, i ≤ n → ((hv P n X ex i).natAbs : Int) < 65536 ^ u) (huv : u + v ≤ 1023) (hcw : c + ex * n / 16 + 1 ≤ 1023) : q_C l K L y_Mo_signOf b_Mo_signOf 6 (some .int) 3 [.ref m, vi p, vi w, vi ex] σ (fun rr σ' => rr = some (vi (hv P n X ex (n + 1)).sign) ∧ rO σ σ' m ∧ ∀ j, j ≠ 103 → j ≠ 104 → rE σ σ' m j) := by
  obtain ⟨hM0, hM1, hM2, hM3, hM4, hM5, hM6, hM7, hM8, hM9⟩ := hL
  have hsg : ∀ {σ1 : q_S} {z : Int}, rV σ1 m 103 z → σ1 (m + 3) 103 = z.sign := fun h => by obtain ⟨n, hu, -⟩ := h; exact hu.2.1
  have hHX : ∀ i, i ≤ n → ((hv P n X ex i * X).natAbs : Int) < 65536 ^ 1023 := fun i hi => by
    have h1 := mul_lt_pow (hH i hi) hXb
    have h2 := ip_le (B := 65536) (by decide) huv
    generalize (65536 : Int) ^ 1023 = Z at h2 ⊢
    omega
  have hTb : ∀ i, i ≤ n → ((P (n - i) * 2 ^ (ex * i)).natAbs : Int) < 65536 ^ 1023 := fun i hi => by
    have h3 := Nat.div_le_div_right (c := 16) (Nat.mul_le_mul_left ex hi)
    have h4 : ((2 ^ (ex * i) : Int).natAbs : Int) < 65536 ^ (ex * i / 16 + 1) := pow2_lt16 (ex * i)
    have h5 := mul_lt_pow (hPb (n - i) (by omega)) h4
    have h6 := ip_le (B := 65536) (by decide) (show c + (ex * i / 16 + 1) ≤ 1023 by omega)
    generalize (65536 : Int) ^ 1023 = Z at h6 ⊢
    omega
  refine q_start [some (.ref m), some (vi p), some (vi w), some (vi ex), none, none] (by decide) (Nat.le_of_ble_eq_true rfl) (fun q h => h) ?_
  have loop : ∀ (d i : Nat), i + d = n + 1 → ∀ (σ1 : q_S), rV σ1 m 103 (hv P n X ex i) → rO σ σ1 m → (∀ j, j ≠ 103 → j ≠ 104 → rE σ σ1 m j) → ∀ t : Int, t = (n : Int) - i →  q_T l K L R_Mo b_Mo_signOf 6 (some .int) 3 (fun rr σ' => rr = some (vi (hv P n X ex (n + 1)).sign) ∧ rO σ σ' m ∧ ∀ j, j ≠ 103 → j ≠ 104 → rE σ σ' m j) 34 [some (.ref m), some (vi p), some (vi w), some (vi ex), some (vi (n : Int)), some (vi t)] [] σ1 := by
    intro d
    induction d with
    | zero =>
      intro i hi σ1 f1 f2 f3 t ht
      refine q_iload d_Mo_signOf_34 rfl ?_
      refine q_if_lt (tgt := 85) (by omega) d_Mo_signOf_36 (by decide) (fun c36 => ?_) (fun c36 => absurd c36 (by omega))
      refine q_aload_n d_Mo_signOf_85 rfl ?_
      refine q_gr (by assumption) pc_Mo 3 (by decide) w_fl_Mo_17 rfl (by rfl) d_Mo_signOf_86 ?_
      refine q_bipush d_Mo_signOf_89 (by decide) ?_
      refine q_ial (103) (by assumption) (by omega) (by omega) (by omega) d_Mo_signOf_91 ?_
      refine q_topi (show _ = (hv P n X ex i).sign from hsg f1) ?_
      exact q_iret rfl (⟨by rw [show n + 1 = i by omega], f2, f3⟩) d_Mo_signOf_92
    | succ d ih =>
      intro i hi σ1 f1 f2 f3 t ht
      refine q_iload d_Mo_signOf_34 rfl ?_
      refine q_if_lt (tgt := 85) (by omega) d_Mo_signOf_36 (by decide) (fun c36 => absurd c36 (by omega)) (fun c36 => ?_)
      refine q_aload_n d_Mo_signOf_39 rfl ?_
      refine q_bipush d_Mo_signOf_40 (by decide) ?_
      refine q_bipush d_Mo_signOf_42 (by decide) ?_
      refine q_iload_n d_Mo_signOf_44 rfl ?_
      refine q_callV (As := [vi ((103 : Nat) : Int), vi ((103 : Nat) : Int), vi w]) (c_Mo_product l K (r := 103) (i := 103) (j := w) (u := u) (v := v) ⟨hM0, hM1, hM2, hM3, hM4, hM5, hM6, hM7, hM8, hM9⟩ (by omega) (by omega) hw f1 (hX.mv (f3 w hw1 hw2)) (hH i (by omega)) hXb (by omega)) w_cd_Mo_product w_ini_Mo w_ml_Mo_76 w_im_Mo_product w_se_Mo_product (by assumption) rfl hd_Mo_product rfl (Nat.le_of_ble_eq_true rfl) d_Mo_signOf_45 (by decide) (by decide) (fun v σ2 hp => ?_)
      obtain ⟨rfl, k1, k2, k3⟩ := hp
      refine q_aload_n d_Mo_signOf_48 rfl ?_
      refine q_bipush d_Mo_signOf_49 (by decide) ?_
      refine q_bipush d_Mo_signOf_51 (by decide) ?_
      refine q_iload_n d_Mo_signOf_53 rfl ?_
      refine q_imul d_Mo_signOf_54 ?_
      refine q_iload d_Mo_signOf_55 rfl ?_
      refine q_iadd d_Mo_signOf_57 ?_
      refine q_topi (show _ = ((9 * p + (n - i) : Nat) : Int) by omega) ?_
      refine q_iload_n d_Mo_signOf_58 rfl ?_
      refine q_iload d_Mo_signOf_59 rfl ?_
      refine q_iload d_Mo_signOf_61 rfl ?_
      refine q_isub d_Mo_signOf_63 ?_
      refine q_imul d_Mo_signOf_64 ?_
      refine q_topi (show _ = ((ex * i : Nat) : Int) by rw [ht, show (n : Int) - (n - i) = i by omega]; simp) ?_
      refine q_callV (As := [vi ((104 : Nat) : Int), vi ((9 * p + (n - i) : Nat) : Int), vi ((ex * i : Nat) : Int)]) (c_Mo_lift l K (r := 104) (i := 9 * p + (n - i)) (p := ex * i) (u := c) ⟨hM0, hM1, hM2, hM3, hM4, hM5, hM6, hM7, hM8, hM9⟩ (by omega) (by omega) (((hP (n - i) (by omega)).mv (f3 _ (by omega) (by omega))).mv (k3 _ (by omega))) (hPb (n - i) (by omega)) (by have := Nat.div_le_div_right (c := 16) (Nat.mul_le_mul_left ex (show i ≤ n by omega)); omega)) w_cd_Mo_lift w_ini_Mo w_ml_Mo_108 w_im_Mo_lift w_se_Mo_lift (by assumption) rfl hd_Mo_lift rfl (Nat.le_of_ble_eq_true rfl) d_Mo_signOf_65 (by decide) (by decide) (fun v σ3 hp => ?_)
      obtain ⟨rfl, k4, k5, k6⟩ := hp
      refine q_aload_n d_Mo_signOf_68 rfl ?_
      refine q_bipush d_Mo_signOf_69 (by decide) ?_
      refine q_bipush d_Mo_signOf_71 (by decide) ?_
      refine q_bipush d_Mo_signOf_73 (by decide) ?_
      refine q_iconst d_Mo_signOf_75 rfl ?_
      refine q_callV (As := [vi ((103 : Nat) : Int), vi ((103 : Nat) : Int), vi ((104 : Nat) : Int), vi 1]) (c_Mo_sum l K (r := 103) (i := 103) (j := 104) (u := 1023) ⟨hM0, hM1, hM2, hM3, hM4, hM5, hM6, hM7, hM8, hM9⟩ (by omega) (by omega) (by omega) (k1.mv (k6 103 (by omega))) k4 (Or.inl rfl) (hHX i (by omega)) (hTb i (by omega)) (by omega)) w_cd_Mo_sum w_ini_Mo w_ml_Mo_83 w_im_Mo_sum w_se_Mo_sum (by assumption) rfl hd_Mo_sum rfl (Nat.le_of_ble_eq_true rfl) d_Mo_signOf_76 (by decide) (by decide) (fun v σ4 hp => ?_)
      obtain ⟨rfl, k7, k8, k9⟩ := hp
      refine q_iinc_5 d_Mo_signOf_79 (by decide) rfl ?_
      refine q_goto (tgt := 34) d_Mo_signOf_82 (by decide) ?_
      refine ih (i + 1) (by omega) σ4 (by rw [show hv P n X ex (i + 1) = hv P n X ex i * X + 1 * (P (n - i) * 2 ^ (ex * i)) by rw [Int.one_mul]; rfl]; exact k7) (((f2.trans k2).trans k5).trans k8) (fun j h6 h7 => (((f3 j h6 h7).trans (k3 j h6)).trans (k6 j h7)).trans (k9 j h6)) _ (by omega)
  refine q_aload_n d_Mo_signOf_0 rfl ?_
  refine q_gr (by assumption) pc_Mo 4 (by decide) w_fl_Mo_20 rfl (by rfl) d_Mo_signOf_1 ?_
  refine q_iload_n d_Mo_signOf_4 rfl ?_
  refine q_ial (p) (by assumption) (by omega) (by omega) (by omega) d_Mo_signOf_5 ?_
  refine q_topi hdeg ?_
  refine q_ist_4 d_Mo_signOf_6 (by decide) rfl ?_
  refine q_iload d_Mo_signOf_8 rfl ?_
  refine q_if_ge (tgt := 15) (by omega) d_Mo_signOf_10 (by decide) (fun c10 => ?_) (fun c10 => absurd c10 (by omega))
  refine q_aload_n d_Mo_signOf_15 rfl ?_
  refine q_bipush d_Mo_signOf_16 (by decide) ?_
  refine q_bipush d_Mo_signOf_18 (by decide) ?_
  refine q_iload_n d_Mo_signOf_20 rfl ?_
  refine q_imul d_Mo_signOf_21 ?_
  refine q_iload d_Mo_signOf_22 rfl ?_
  refine q_iadd d_Mo_signOf_24 ?_
  refine q_topi (show _ = ((9 * p + n : Nat) : Int) by omega) ?_
  refine q_callV (As := [vi ((103 : Nat) : Int), vi ((9 * p + n : Nat) : Int)]) (c_Mo_copy l K (r := 103) (i := 9 * p + n) ⟨hM0, hM1, hM2, hM3, hM4, hM5, hM6, hM7, hM8, hM9⟩ (by omega) (by omega) (hP n (Nat.le_refl n))) w_cd_Mo_copy w_ini_Mo w_ml_Mo_69 w_im_Mo_copy w_se_Mo_copy (by assumption) rfl hd_Mo_copy rfl (Nat.le_of_ble_eq_true rfl) d_Mo_signOf_25 (by decide) (by decide) (fun v σ1 hp => ?_)
  obtain ⟨rfl, k1, k2, k3, k4⟩ := hp
  refine q_iload d_Mo_signOf_28 rfl ?_
  refine q_iconst d_Mo_signOf_30 rfl ?_
  refine q_isub d_Mo_signOf_31 ?_
  refine q_ist_5 d_Mo_signOf_32 (by decide) rfl ?_
  exact loop n 1 (by omega) σ1 (by rw [show hv P n X ex 1 = P n by show 0 * X + P (n - 0) * 2 ^ (ex * 0) = P n; simp]; exact k1) k2 (fun j h6 h7 => k4 j h6) _ rfl
