/-! TEXT: write -/
theorem blk_d {M t : Nat} (ht : t < 9) : M % 1000000000 / 10 ^ t % 10 = M / 10 ^ t % 10 := by
  have h : (1000000000 : Nat) = 10 ^ t * (10 * 10 ^ (8 - t)) := by
    rw [← Nat.pow_succ', ← Nat.pow_add, show t + (8 - t + 1) = 9 by omega]
  rw [h, Nat.mod_mul_right_div_self, Nat.mod_mul_right_mod]
theorem blk_g {N j t : Nat} (ht : t < 9) : ((N / 10 ^ (9 * j) % 1000000000 / 10 ^ t : Nat) : Int).tmod 10 = dgd N (9 * j + t) := by
  rw [Int.tmod_eq_emod_of_nonneg (Int.natCast_nonneg _), show ((10 : Int)) = ((10 : Nat) : Int) from rfl, ← Int.natCast_emod, blk_d ht, Nat.div_div_eq_div_mul, ← Nat.pow_add]
  rfl
theorem blk_n {M t : Nat} : ((M / 10 ^ t : Nat) : Int).tdiv 10 = ((M / 10 ^ (t + 1) : Nat) : Int) := by
  rw [Int.tdiv_eq_ediv_of_nonneg (Int.natCast_nonneg _), show ((10 : Int)) = ((10 : Nat) : Int) from rfl, ← Int.natCast_ediv, Nat.div_div_eq_div_mul, ← Nat.pow_succ]
theorem blk_s {x Y : Int} {j : Nat} (fy : Y.natAbs = x.natAbs / 10 ^ (9 * j)) : (Y.sign * ((Y.natAbs : Int) / 1000000000)).natAbs = x.natAbs / 10 ^ (9 * (j + 1)) := by
  have h1 : (Y.natAbs : Int) / 1000000000 = ((x.natAbs / 10 ^ (9 * (j + 1)) : Nat) : Int) := by
    rw [fy, show 9 * (j + 1) = 9 * j + 9 by omega, Nat.pow_add, ← Nat.div_div_eq_div_mul]
    exact (Int.natCast_ediv _ _).symm
  rw [h1, Int.natAbs_mul, Int.natAbs_natCast]
  rcases Int.lt_trichotomy Y 0 with h | h | h
  · rw [Int.sign_eq_neg_one_of_neg h]; simp
  · rw [h] at h1 ⊢
    have : x.natAbs / 10 ^ (9 * (j + 1)) = 0 := by
      have h2 : ((0 : Int).natAbs : Int) / 1000000000 = 0 := rfl
      rw [h2] at h1; omega
    rw [this]; simp
  · rw [Int.sign_eq_one_of_pos h]; simp
theorem dgd_ge {N D : Nat} (h : dgd N D ≠ 0) : 10 ^ D ≤ N := by
  rcases Nat.lt_or_ge N (10 ^ D) with h1 | h1
  · exfalso; apply h; unfold dgd; rw [Nat.div_eq_of_lt h1]; rfl
  · exact h1
theorem dgd_lt {N D : Nat} (h1 : N < 10 ^ (D + 1)) (h : dgd N D = 0) : N < 10 ^ D := by
  unfold dgd at h
  have h2 : N / 10 ^ D < 10 := Nat.div_lt_of_lt_mul (by rw [← Nat.pow_succ]; exact h1)
  have h3 : N / 10 ^ D % 10 = 0 := by exact_mod_cast h
  rw [Nat.mod_eq_of_lt h2] at h3
  exact (Nat.div_eq_zero_iff_lt (Nat.pow_pos (by decide))).1 h3
set_option maxHeartbeats 4000000 in
set_option maxRecDepth 100000 in
theorem c_Tx_write (l : Launch) (K : pw_K) {L : q_L} {σ : q_S} {a b w : Nat} {x : Int} (hL : txL L a) (hLb : nL L b w) (hd : b + 1 < a ∨ a + 5 ≤ b) (hx : nV σ b w x) (hxb : x.natAbs < 10 ^ 117) (hxl : (x.natAbs : Int) < 2147483648 ^ 160) : q_C l K L y_Tx_write b_Tx_write 5 (some .int) 2 [.ref a, .ref b] σ (fun r σ' => ∃ n, ndg x.natAbs n ∧ r = some (vi (tln x n : Int)) ∧ σ' a 3 = (tln x n : Int) ∧ (∀ k, k < tln x n → σ' (a + 1) k = tcd x n k) ∧ (∀ q, (q < a ∨ a + 5 ≤ q) → σ' q = σ q)) := by
  obtain ⟨hT0, hTb, hTt, hLf⟩ := hL
  refine q_start [some (.ref a), some (.ref b), none, none, none] (by decide) (Nat.le_of_ble_eq_true rfl) (fun q h => h) ?_
  have loopC : ∀ (n c y : Nat), y + c = tln x n → ndg x.natAbs n → c ≤ n ∧ tln x n ≤ n + 1 ∧ n ≤ 118 → ∀ σ1 : q_S, σ1 a 3 = (y : Int) → (∀ i, i < c → σ1 (a + 2) i = 48 + dgd x.natAbs i) → (∀ i, i < y → σ1 (a + 1) i = tcd x n i) → (∀ q, (q < a ∨ a + 5 ≤ q) → σ1 q = σ q) → ∀ s t : Int, s = n → t = (c : Int) - 1 → q_T l K L R_Tx b_Tx_write 5 (some .int) 2 (fun r σ' => ∃ n, ndg x.natAbs n ∧ r = some (vi (tln x n : Int)) ∧ σ' a 3 = (tln x n : Int) ∧ (∀ k, k < tln x n → σ' (a + 1) k = tcd x n k) ∧ (∀ q, (q < a ∨ a + 5 ≤ q) → σ' q = σ q)) 147 [some (.ref a), some (.ref b), some (vi s), some (vi t), none] [] σ1 := by
    intro n c
    induction c with
    | zero =>
      intro y hy hnd hb3 σ1 f3 f4 f5 f6 s t hs2 ht
      refine q_iload_n d_Tx_write_147 rfl ?_
      refine q_if_lt (tgt := 192) (by omega) d_Tx_write_148 (by decide) (fun c148 => ?_) (fun c148 => absurd c148 (by omega))
      refine q_aload_n d_Tx_write_192 rfl ?_
      refine q_gi hT0 pc_Tx 3 (by decide) w_fl_Tx_38 rfl (by rfl) d_Tx_write_193 ?_
      refine q_topi (show _ = (tln x n : Int) by rw [f3]; omega) ?_
      exact q_iret rfl (⟨n, hnd, rfl, by rw [f3]; omega, fun k hk => f5 k (by omega), f6⟩) d_Tx_write_196
    | succ c ih =>
      intro y hy hnd hb3 σ1 f3 f4 f5 f6 s t hs2 ht
      refine q_iload_n d_Tx_write_147 rfl ?_
      refine q_if_lt (tgt := 192) (by omega) d_Tx_write_148 (by decide) (fun c148 => absurd c148 (by omega)) (fun c148 => ?_)
      refine q_aload_n d_Tx_write_151 rfl ?_
      refine q_gi hT0 pc_Tx 3 (by decide) w_fl_Tx_38 rfl (by rfl) d_Tx_write_152 ?_
      refine q_topi f3 ?_
      refine q_sipush d_Tx_write_155 (by decide) ?_
      refine q_icmp_ge (tgt := 192) (by omega) (by omega) d_Tx_write_158 (by decide) (fun c158 => absurd c158 (by omega)) (fun c158 => ?_)
      refine q_aload_n d_Tx_write_161 rfl ?_
      refine q_gr hT0 pc_Tx 0 (by decide) w_fl_Tx_9 rfl (by rfl) d_Tx_write_162 ?_
      refine q_aload_n d_Tx_write_165 rfl ?_
      refine q_gi hT0 pc_Tx 3 (by decide) w_fl_Tx_38 rfl (by rfl) d_Tx_write_166 ?_
      refine q_topi f3 ?_
      refine q_aload_n d_Tx_write_169 rfl ?_
      refine q_gr hT0 pc_Tx 1 (by decide) w_fl_Tx_13 rfl (by rfl) d_Tx_write_170 ?_
      refine q_iload_n d_Tx_write_173 rfl ?_
      refine q_bal (c) hTt (by omega) (by omega) (by omega) d_Tx_write_174 ?_
      refine q_topi (f4 c (by omega)) ?_
      have dr := dgd_r x.natAbs c
      refine q_bas (y) hTb (by omega) (by omega) (by omega) (by omega) d_Tx_write_175 ?_
      refine q_aload_n d_Tx_write_176 rfl ?_
      refine q_dup d_Tx_write_177 rfl ?_
      refine q_gi hT0 pc_Tx 3 (by decide) w_fl_Tx_38 rfl (by rfl) d_Tx_write_178 ?_
      refine q_topi (show _ = (y : Int) by rw [q_up_a _ _ (by omega)]; exact f3) ?_
      refine q_iconst d_Tx_write_181 rfl ?_
      refine q_iadd d_Tx_write_182 ?_
      refine q_pi hT0 pc_Tx 3 (by decide) w_fl_Tx_38 rfl rfl rfl rfl (by rfl) d_Tx_write_183 ?_
      refine q_iinc_3 d_Tx_write_186 (by decide) rfl ?_
      refine q_goto (tgt := 147) d_Tx_write_189 (by decide) ?_
      refine ih (y + 1) (by omega) hnd (by omega) _ (by rw [q_up_self]; omega) (fun i hi => by rw [q_up_a _ _ (by omega), q_up_a _ _ (by omega)]; exact f4 i (by omega)) (fun i hi => ?_) (fun q hq => by rw [q_up_a _ _ (by omega), q_up_a _ _ (by omega)]; exact f6 q hq) _ _ hs2 (by omega)
      rw [q_up_a _ _ (by omega)]
      exact if ei : i = y then by subst ei; rw [q_up_self, ← tcr_r hnd.1 (by omega)]; unfold tcr; rw [if_neg (by omega)]; congr 2; omega else by rw [q_up_k _ _ ei]; exact f5 i (by omega)
  have fin : ∀ (n : Nat) (σ1 : q_S), ndg x.natAbs n → (∀ i, i < n → σ1 (a + 2) i = 48 + dgd x.natAbs i) → (∀ q, (q < a ∨ a + 5 ≤ q) → σ1 q = σ q) → ∀ s : Int, s = n → q_T l K L R_Tx b_Tx_write 5 (some .int) 2 (fun r σ' => ∃ n, ndg x.natAbs n ∧ r = some (vi (tln x n : Int)) ∧ σ' a 3 = (tln x n : Int) ∧ (∀ k, k < tln x n → σ' (a + 1) k = tcd x n k) ∧ (∀ q, (q < a ∨ a + 5 ≤ q) → σ' q = σ q)) 118 [some (.ref a), some (.ref b), some (vi s), none, none] [] σ1 := by
    intro n σ1 hnd f1 f2 s hs
    have hn118 : n ≤ 118 := by
      rcases hnd.2.2 with h | h
      · omega
      · rcases Nat.lt_or_ge (n - 1) 117 with h2 | h2
        · omega
        · have := Nat.pow_le_pow_right (show 0 < 10 by decide) h2; omega
    have htl : tln x n ≤ n + 1 := by unfold tln; split <;> omega
    refine q_aload_n d_Tx_write_118 rfl ?_
    refine q_iconst d_Tx_write_119 rfl ?_
    refine q_pi hT0 pc_Tx 3 (by decide) w_fl_Tx_38 rfl rfl rfl rfl (by rfl) d_Tx_write_120 ?_
    refine q_aload_n d_Tx_write_123 rfl ?_
    refine q_gi hLb.1.1 pc_Nu 2 (by decide) w_fl_Tx_29 rfl (by rfl) d_Tx_write_124 ?_
    refine q_topi (show _ = x.sign by rw [q_up_a _ _ (by omega), f2 _ (by omega)]; exact hx.sgn) ?_
    have sx := sg3 x
    refine q_if_ge (tgt := 143) (by omega) d_Tx_write_127 (by decide) (fun cs => ?_) (fun cs => ?_)
    · refine q_iload_n d_Tx_write_143 rfl ?_
      refine q_iconst d_Tx_write_144 rfl ?_
      refine q_isub d_Tx_write_145 ?_
      refine q_ist_n_3 d_Tx_write_146 (by decide) rfl ?_
      exact loopC n n 0 (by have : tln x n = n := if_neg (by omega); omega) hnd ⟨Nat.le_refl _, htl, hn118⟩ _ (by rw [q_up_self]; rfl) (fun i hi => by rw [q_up_a _ _ (by omega)]; exact f1 i hi) (fun i hi => by omega) (fun q hq => by rw [q_up_a _ _ (by omega)]; exact f2 q hq) _ _ hs (by omega)
    · refine q_aload_n d_Tx_write_130 rfl ?_
      refine q_gr hT0 pc_Tx 0 (by decide) w_fl_Tx_9 rfl (by rfl) d_Tx_write_131 ?_
      refine q_iconst d_Tx_write_134 rfl ?_
      refine q_bipush d_Tx_write_135 (by decide) ?_
      refine q_bas (0) hTb (by omega) (by omega) (by omega) (by omega) d_Tx_write_137 ?_
      refine q_aload_n d_Tx_write_138 rfl ?_
      refine q_iconst d_Tx_write_139 rfl ?_
      refine q_pi hT0 pc_Tx 3 (by decide) w_fl_Tx_38 rfl rfl rfl rfl (by rfl) d_Tx_write_140 ?_
      refine q_iload_n d_Tx_write_143 rfl ?_
      refine q_iconst d_Tx_write_144 rfl ?_
      refine q_isub d_Tx_write_145 ?_
      refine q_ist_n_3 d_Tx_write_146 (by decide) rfl ?_
      exact loopC n n 1 (by have : tln x n = n + 1 := if_pos (by omega); omega) hnd ⟨Nat.le_refl _, htl, hn118⟩ _ (by rw [q_up_self]; rfl) (fun i hi => by rw [q_up_a _ _ (by omega), q_up_a _ _ (by omega), q_up_a _ _ (by omega)]; exact f1 i hi) (fun i hi => by rw [q_up_a _ _ (by omega), show i = 0 by omega, q_up_self]; unfold tcd; rw [if_pos (by omega), if_pos rfl]) (fun q hq => by rw [q_up_a _ _ (by omega), q_up_a _ _ (by omega), q_up_a _ _ (by omega)]; exact f2 q hq) _ _ hs (by omega)
  have loopB : ∀ (D : Nat) (σ1 : q_S), D ≤ 126 → x.natAbs < 10 ^ D → (∀ i, i < D → σ1 (a + 2) i = 48 + dgd x.natAbs i) → (∀ q, (q < a ∨ a + 5 ≤ q) → σ1 q = σ q) → ∀ s : Int, s = D → q_T l K L R_Tx b_Tx_write 5 (some .int) 2 (fun r σ' => ∃ n, ndg x.natAbs n ∧ r = some (vi (tln x n : Int)) ∧ σ' a 3 = (tln x n : Int) ∧ (∀ k, k < tln x n → σ' (a + 1) k = tcd x n k) ∧ (∀ q, (q < a ∨ a + 5 ≤ q) → σ' q = σ q)) 81 [some (.ref a), some (.ref b), some (vi s), none, none] [] σ1 := by
    intro D
    induction D with
    | zero =>
      intro σ1 hD hlt f1 f2 s hs
      refine q_iload_n d_Tx_write_81 rfl ?_
      refine q_if_le (tgt := 104) (by omega) d_Tx_write_82 (by decide) (fun c82 => ?_) (fun c82 => absurd c82 (by omega))
      refine q_iload_n d_Tx_write_104 rfl ?_
      refine q_if_ne (tgt := 118) (by omega) d_Tx_write_105 (by decide) (fun c0 => absurd c0 (by omega)) (fun c0 => ?_)
      refine q_aload_n d_Tx_write_108 rfl ?_
      refine q_gr hT0 pc_Tx 1 (by decide) w_fl_Tx_13 rfl (by rfl) d_Tx_write_109 ?_
      refine q_iconst d_Tx_write_112 rfl ?_
      refine q_bipush d_Tx_write_113 (by decide) ?_
      refine q_bas (0) hTt (by omega) (by omega) (by omega) (by omega) d_Tx_write_115 ?_
      refine q_iconst d_Tx_write_116 rfl ?_
      refine q_ist_n_2 d_Tx_write_117 (by decide) rfl ?_
      exact fin 1 _ ⟨by omega, by omega, Or.inl rfl⟩ (fun i hi => by rw [show i = 0 by omega, q_up_self]; unfold dgd; rw [show x.natAbs = 0 by omega]; rfl) (fun q hq => by rw [q_up_a _ _ (by omega)]; exact f2 q hq) _ (by omega)
    | succ D ih =>
      intro σ1 hD hlt f1 f2 s hs
      refine q_iload_n d_Tx_write_81 rfl ?_
      refine q_if_le (tgt := 104) (by omega) d_Tx_write_82 (by decide) (fun c82 => absurd c82 (by omega)) (fun c82 => ?_)
      refine q_aload_n d_Tx_write_85 rfl ?_
      refine q_gr hT0 pc_Tx 1 (by decide) w_fl_Tx_13 rfl (by rfl) d_Tx_write_86 ?_
      refine q_iload_n d_Tx_write_89 rfl ?_
      refine q_iconst d_Tx_write_90 rfl ?_
      refine q_isub d_Tx_write_91 ?_
      refine q_bal (D) hTt (by omega) (by omega) (by omega) d_Tx_write_92 ?_
      refine q_topi (f1 D (by omega)) ?_
      have dr := dgd_r x.natAbs D
      refine q_bipush d_Tx_write_93 (by decide) ?_
      refine q_icmp_ne (tgt := 104) (by omega) (by omega) d_Tx_write_95 (by decide) (fun cd => ?_) (fun cd => ?_)
      · refine q_iload_n d_Tx_write_104 rfl ?_
        refine q_if_ne (tgt := 118) (by omega) d_Tx_write_105 (by decide) (fun c105 => ?_) (fun c105 => absurd c105 (by omega))
        exact fin (D + 1) σ1 ⟨by omega, hlt, Or.inr (by rw [Nat.add_sub_cancel]; exact dgd_ge (by omega))⟩ f1 f2 _ hs
      · refine q_iinc_2 d_Tx_write_98 (by decide) rfl ?_
        refine q_goto (tgt := 81) d_Tx_write_101 (by decide) ?_
        exact ih σ1 (by omega) (dgd_lt hlt (by omega)) (fun i hi => f1 i (by omega)) f2 _ (by omega)
  have loopA : ∀ (fu j : Nat), j + fu = 14 → ∀ (σ1 : q_S) (Y : Int), nV σ1 (a + 3) 160 Y → Y.natAbs = x.natAbs / 10 ^ (9 * j) → (∀ i, i < 9 * j → σ1 (a + 2) i = 48 + dgd x.natAbs i) → (∀ q, (q < a ∨ a + 5 ≤ q) → σ1 q = σ q) → ∀ s : Int, s = ((9 * j : Nat) : Int) → q_T l K L R_Tx b_Tx_write 5 (some .int) 2 (fun r σ' => ∃ n, ndg x.natAbs n ∧ r = some (vi (tln x n : Int)) ∧ σ' a 3 = (tln x n : Int) ∧ (∀ k, k < tln x n → σ' (a + 1) k = tcd x n k) ∧ (∀ q, (q < a ∨ a + 5 ≤ q) → σ' q = σ q)) 10 [some (.ref a), some (.ref b), some (vi s), none, none] [] σ1 := by
    intro fu
    induction fu with
    | zero =>
      intro j hj σ1 Y f1 fy f2 f3 s hs
      refine q_aload_n d_Tx_write_10 rfl ?_
      refine q_gr hT0 pc_Tx 2 (by decide) w_fl_Tx_21 rfl (by rfl) d_Tx_write_11 ?_
      refine q_gi hLf.1.1 pc_Nu 2 (by decide) w_fl_Tx_29 rfl (by rfl) d_Tx_write_14 ?_
      refine q_topi f1.sgn ?_
      have hz : x.natAbs / 10 ^ (9 * j) = 0 := Nat.div_eq_of_lt (Nat.lt_of_lt_of_le hxb (Nat.pow_le_pow_right (by decide) (by omega)))
      have hYz : Y = 0 := by omega
      refine q_if_eq (tgt := 81) (by rw [hYz]; decide) d_Tx_write_17 (by decide) (fun c17 => ?_) (fun c17 => absurd c17 (not_not_intro (by rw [hYz]; rfl)))
      exact loopB (9 * j) σ1 (by omega) ((Nat.div_eq_zero_iff_lt (Nat.pow_pos (by decide))).1 hz) f2 f3 _ hs
    | succ fu ih =>
      intro j hj σ1 Y f1 fy f2 f3 s hs
      refine q_aload_n d_Tx_write_10 rfl ?_
      refine q_gr hT0 pc_Tx 2 (by decide) w_fl_Tx_21 rfl (by rfl) d_Tx_write_11 ?_
      refine q_gi hLf.1.1 pc_Nu 2 (by decide) w_fl_Tx_29 rfl (by rfl) d_Tx_write_14 ?_
      refine q_topi f1.sgn ?_
      have sy := sg3 Y
      refine q_if_eq (tgt := 81) (by omega) d_Tx_write_17 (by decide) (fun cy => ?_) (fun cy => ?_)
      · exact loopB (9 * j) σ1 (by omega) ((Nat.div_eq_zero_iff_lt (Nat.pow_pos (by decide))).1 (by rw [← fy]; have := Int.sign_eq_zero_iff_zero.1 cy; omega)) f2 f3 _ hs
      · refine q_iload_n d_Tx_write_20 rfl ?_
        refine q_bipush d_Tx_write_21 (by decide) ?_
        refine q_iadd d_Tx_write_23 ?_
        refine q_sipush d_Tx_write_24 (by decide) ?_
        have hY0 : 0 < x.natAbs / 10 ^ (9 * j) := by
          rw [← fy]
          have : Y ≠ 0 := fun h9 => by rw [h9] at cy; exact cy rfl
          omega
        have hjb : 9 * j < 117 := by
          have h1 : 10 ^ (9 * j) ≤ x.natAbs := (Nat.div_pos_iff.1 hY0).2
          rcases Nat.lt_or_ge (9 * j) 117 with h2 | h2
          · exact h2
          · have := Nat.pow_le_pow_right (show 0 < 10 by decide) h2; omega
        refine q_icmp_ge (tgt := 81) (by omega) (by omega) d_Tx_write_27 (by decide) (fun c27 => absurd c27 (by omega)) (fun c27 => ?_)
        refine q_aload_n d_Tx_write_30 rfl ?_
        refine q_gr hT0 pc_Tx 2 (by decide) w_fl_Tx_21 rfl (by rfl) d_Tx_write_31 ?_
        refine q_ldc (z := 1000000000) w_k_Tx_33 (by decide) d_Tx_write_34 ?_
        refine q_callV (As := [vi 1000000000]) (c_Nu_divideSmall l K hLf f1 (by decide)) w_cd_Nu_divideSmall w_ini_Nu w_ml_Tx_34 w_im_Nu_divideSmall w_se_Nu_divideSmall hLf.1.1 rfl hd_Nu_divideSmall rfl (Nat.le_of_ble_eq_true rfl) d_Tx_write_36 (by decide) (by decide) (fun v σ2 hp => ?_)
        obtain ⟨rfl, k1, k2⟩ := hp
        have hbk : (Y.natAbs : Int) % 1000000000 = ((x.natAbs / 10 ^ (9 * j) % 1000000000 : Nat) : Int) := by rw [fy]; exact (Int.natCast_emod _ _).symm
        have hY2 : ∃ Y2 : Int, nV σ2 (a + 3) 160 Y2 ∧ Y2.natAbs = x.natAbs / 10 ^ (9 * (j + 1)) := by
          refine ⟨_, k1, ?_⟩
          exact blk_s fy
        obtain ⟨Y2, y1, y3⟩ := hY2
        have inner : ∀ (r w : Nat), w + r = 9 → ∀ σ1 : q_S, nV σ1 (a + 3) 160 Y2 → (∀ i, i < 9 * j + w → σ1 (a + 2) i = 48 + dgd x.natAbs i) → (∀ q, (q < a ∨ a + 5 ≤ q) → σ1 q = σ q) → ∀ s bk t : Int, s = ((9 * j + w : Nat) : Int) → bk = ((x.natAbs / 10 ^ (9 * j) % 1000000000 / 10 ^ w : Nat) : Int) → t = w → q_T l K L R_Tx b_Tx_write 5 (some .int) 2 (fun r σ' => ∃ n, ndg x.natAbs n ∧ r = some (vi (tln x n : Int)) ∧ σ' a 3 = (tln x n : Int) ∧ (∀ k, k < tln x n → σ' (a + 1) k = tcd x n k) ∧ (∀ q, (q < a ∨ a + 5 ≤ q) → σ' q = σ q)) 43 [some (.ref a), some (.ref b), some (vi s), some (vi bk), some (vi t)] [] σ1 := by
          intro r
          induction r with
          | zero =>
            intro w hw σ1 g1 g2 g3 s bk t hs hb ht
            refine q_iload d_Tx_write_43 rfl ?_
            refine q_bipush d_Tx_write_45 (by decide) ?_
            refine q_icmp_ge (tgt := 78) (by omega) (by omega) d_Tx_write_47 (by decide) (fun c47 => ?_) (fun c47 => absurd c47 (by omega))
            refine q_goto (tgt := 10) d_Tx_write_78 (by decide) ?_
            refine q_drop_4 ?_
            refine q_drop_3 ?_
            exact ih (j + 1) (by omega) σ1 Y2 g1 y3 (fun i hi => g2 i (by omega)) g3 _ (by omega)
          | succ r ihw =>
            intro w hw σ1 g1 g2 g3 s bk t hs hb ht
            have hbl : x.natAbs / 10 ^ (9 * j) % 1000000000 / 10 ^ w < 1000000000 := Nat.lt_of_le_of_lt (Nat.div_le_self _ _) (Nat.mod_lt _ (by decide))
            refine q_iload d_Tx_write_43 rfl ?_
            refine q_bipush d_Tx_write_45 (by decide) ?_
            refine q_icmp_ge (tgt := 78) (by omega) (by omega) d_Tx_write_47 (by decide) (fun c47 => absurd c47 (by omega)) (fun c47 => ?_)
            refine q_aload_n d_Tx_write_50 rfl ?_
            refine q_gr hT0 pc_Tx 1 (by decide) w_fl_Tx_13 rfl (by rfl) d_Tx_write_51 ?_
            refine q_iload_n d_Tx_write_54 rfl ?_
            refine q_bipush d_Tx_write_55 (by decide) ?_
            refine q_iload_n d_Tx_write_57 rfl ?_
            refine q_bipush d_Tx_write_58 (by decide) ?_
            refine q_irem (by rw [hb]; generalize x.natAbs / 10 ^ (9 * j) % 1000000000 / 10 ^ w = z at *; omega) (by omega) (by omega) d_Tx_write_60 ?_
            refine q_topi (show _ = dgd x.natAbs (9 * j + w) by rw [hb]; exact blk_g (by omega)) ?_
            have dr := dgd_r x.natAbs (9 * j + w)
            refine q_iadd d_Tx_write_61 ?_
            refine q_i2b (by omega) d_Tx_write_62 ?_
            refine q_bas (9 * j + w) hTt (by omega) (by omega) (by omega) (by omega) d_Tx_write_63 ?_
            refine q_iload_n d_Tx_write_64 rfl ?_
            refine q_bipush d_Tx_write_65 (by decide) ?_
            refine q_idiv (by rw [hb]; generalize x.natAbs / 10 ^ (9 * j) % 1000000000 / 10 ^ w = z at *; omega) (by omega) (by omega) d_Tx_write_67 ?_
            refine q_topi (show _ = ((x.natAbs / 10 ^ (9 * j) % 1000000000 / 10 ^ (w + 1) : Nat) : Int) by rw [hb]; exact blk_n) ?_
            refine q_ist_n_3 d_Tx_write_68 (by decide) rfl ?_
            refine q_iinc_2 d_Tx_write_69 (by decide) rfl ?_
            refine q_iinc_4 d_Tx_write_72 (by decide) rfl ?_
            refine q_goto (tgt := 43) d_Tx_write_75 (by decide) ?_
            exact ihw (w + 1) (by omega) _ (g1.mv (by rw [q_up_a _ _ (by omega)]) (by rw [q_up_a _ _ (by omega)])) (fun i hi => if ei : i = 9 * j + w then by subst ei; rw [q_up_self] else by rw [q_up_k _ _ ei]; exact g2 i (by omega)) (fun q hq => by rw [q_up_a _ _ (by omega)]; exact g3 q hq) _ _ _ (by omega) rfl (by omega)
        refine q_ist_n_3 d_Tx_write_39 (by decide) rfl ?_
        refine q_iconst d_Tx_write_40 rfl ?_
        refine q_ist_4 d_Tx_write_41 (by decide) rfl ?_
        exact inner 9 0 (by omega) σ2 y1 (fun i hi => by rw [k2 _ (by omega) (by omega)]; exact f2 i (by omega)) (fun q hq => by rw [k2 q (by omega) (by omega)]; exact f3 q hq) _ _ _ (by omega) (by rw [Nat.pow_zero, Nat.div_one]; exact hbk) rfl
  refine q_aload_n d_Tx_write_0 rfl ?_
  refine q_gr hT0 pc_Tx 2 (by decide) w_fl_Tx_21 rfl (by rfl) d_Tx_write_1 ?_
  refine q_aload_n d_Tx_write_4 rfl ?_
  refine q_callV (As := [.ref b]) (c_Nu_copy l K hLf hLb (by omega) hx hxl) w_cd_Nu_copy w_ini_Nu w_ml_Tx_25 w_im_Nu_copy w_se_Nu_copy hLf.1.1 rfl hd_Nu_copy rfl (Nat.le_of_ble_eq_true rfl) d_Tx_write_5 (by decide) (by decide) (fun v σ1 hp => ?_)
  obtain ⟨rfl, k1, k2⟩ := hp
  refine q_iconst d_Tx_write_8 rfl ?_
  refine q_ist_n_2 d_Tx_write_9 (by decide) rfl ?_
  exact loopA 14 0 (by omega) σ1 x k1 (by simp) (fun i hi => by omega) (fun q hq => k2 q (by omega) (by omega)) _ rfl
