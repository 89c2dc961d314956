/-! THE REFERENCE: writes -/
/-- digit k of N -/
def dgd (N k : Nat) : Int := ((N / 10 ^ k % 10 : Nat) : Int)
theorem dgd_r (N k : Nat) : 0 ≤ dgd N k ∧ dgd N k ≤ 9 := by unfold dgd; have := Nat.mod_lt (N / 10 ^ k) (show 0 < 10 by decide); omega
/-- n digits are those of N -/
def ndg (N n : Nat) : Prop := 1 ≤ n ∧ N < 10 ^ n ∧ (n = 1 ∨ 10 ^ (n - 1) ≤ N)
theorem ndg_u {N n k : Nat} (h : ndg N n) (g : ndg N k) : n = k := by
  obtain ⟨h1, h2, h3⟩ := h
  obtain ⟨g1, g2, g3⟩ := g
  rcases Nat.lt_trichotomy n k with c | c | c
  · rcases g3 with g3 | g3
    · omega
    · have := Nat.pow_le_pow_right (show 0 < 10 by decide) (show n ≤ k - 1 by omega); omega
  · exact c
  · rcases h3 with h3 | h3
    · omega
    · have := Nat.pow_le_pow_right (show 0 < 10 by decide) (show k ≤ n - 1 by omega); omega
/-- the text of x, n digits: its code at place k -/
def tcd (x : Int) (n k : Nat) : Int := if x < 0 then (if k = 0 then 45 else 48 + dgd x.natAbs (n - k)) else 48 + dgd x.natAbs (n - 1 - k)
def tln (x : Int) (n : Nat) : Nat := if x < 0 then n + 1 else n
/-- the same, from behind -/
def tcr (x : Int) (n k : Nat) : Int := if k = n then 45 else 48 + dgd x.natAbs k
theorem tcr_r {x : Int} {n k : Nat} (hn : 1 ≤ n) (hk : k < tln x n) : tcr x n (tln x n - 1 - k) = tcd x n k := by
  unfold tcr tcd tln at *
  by_cases hx : x < 0
  · rw [if_pos hx] at hk ⊢
    rw [if_pos hx]
    by_cases h0 : k = 0
    · subst h0; rw [if_pos (by omega), if_pos rfl]
    · rw [if_neg (by omega), if_neg h0]; congr 2
  · rw [if_neg hx] at hk ⊢
    rw [if_neg hx, if_neg (by omega)]
theorem tn_s {x Y : Int} {k : Nat} (fy : Y.natAbs = x.natAbs / 10 ^ k) : (Y.sign * ((x.natAbs / 10 ^ (k + 1) : Nat) : Int)).natAbs = x.natAbs / 10 ^ (k + 1) := by
  rw [Int.natAbs_mul, Int.natAbs_natCast]
  rcases Int.lt_trichotomy Y 0 with h | h | h
  · rw [Int.sign_eq_neg_one_of_neg h]; simp
  · rw [h] at fy ⊢
    have : x.natAbs / 10 ^ (k + 1) = 0 := by rw [Nat.pow_succ, ← Nat.div_div_eq_div_mul, ← fy]; simp
    rw [this]; simp
  · rw [Int.sign_eq_one_of_pos h]; simp
set_option maxHeartbeats 4000000 in
set_option maxRecDepth 100000 in
theorem c_Mo_writes (l : Launch) (K : pw_K) {L : q_L} {σ : q_S} {m a : Nat} {x : Int} (hL : mL L m) (ha : a < 160) (ha126 : a ≠ 126) (hx : rV σ m a x) (hxb : x.natAbs < 10 ^ 380) : q_C l K L y_Mo_writes b_Mo_writes 7 (some .int) 2 [.ref m, vi a] σ (fun r σ' => ∃ n, ndg x.natAbs n ∧ r = some (vi (tln x n : Int)) ∧ σ' m 9 = (tln x n : Int) ∧ (∀ k, k < tln x n → σ' (m + 8) k = tcd x n k) ∧ (∀ j, j ≠ 9 → σ' m j = σ m j) ∧ (∀ q, q ≠ m → q ≠ m + 1 → q ≠ m + 2 → q ≠ m + 3 → q ≠ m + 8 → q ≠ m + 9 → σ' q = σ q) ∧ (∀ r, r ≠ 126 → rE σ σ' m r)) := by
  obtain ⟨hM0, hM1, hM2, hM3, hM4, hM5, hM6, hM7, hM8, hM9⟩ := hL
  have hpow : ∀ k, (k = 0 ∨ 0 < x.natAbs / 10 ^ k) → k < 380 := fun k h => by
    rcases h with h | h
    · omega
    · have h1 : 10 ^ k ≤ x.natAbs := (Nat.div_pos_iff.1 h).2
      rcases Nat.lt_or_ge k 380 with h2 | h2
      · exact h2
      · have := Nat.pow_le_pow_right (show 0 < 10 by decide) h2; omega
  have hx2 : ∀ {k : Nat}, (k = 0 ∨ 0 < x.natAbs / 10 ^ k) → (k + 1 = 1 ∨ 10 ^ (k + 1 - 1) ≤ x.natAbs) := fun {k} h => by
    rcases h with h | h
    · exact Or.inl (by omega)
    · rw [Nat.add_sub_cancel]; exact Or.inr (Nat.div_pos_iff.1 h).2
  refine q_start [some (.ref m), some (vi a), none, none, none, none, none] (by decide) (Nat.le_of_ble_eq_true rfl) (fun q h => h) ?_
  have revl : ∀ (n : Nat), ndg x.natAbs n → n ≤ 390 →  ∀ (r w : Nat), w + r = tln x n / 2 → ∀ (σ3 : q_S), (∀ i, i < w → σ3 (m + 8) i = tcr x n (tln x n - 1 - i)) → (∀ i, w ≤ i → i + w < tln x n → σ3 (m + 8) i = tcr x n i) → (∀ i, i < w → σ3 (m + 8) (tln x n - 1 - i) = tcr x n i) → (∀ q, q ≠ m → q ≠ m + 1 → q ≠ m + 2 → q ≠ m + 3 → q ≠ m + 8 → q ≠ m + 9 → σ3 q = σ q) → (∀ r, r ≠ 126 → rE σ σ3 m r) → σ3 m = σ m → ∀ t : Int, t = w → q_T l K L R_Mo b_Mo_writes 7 (some .int) 2 (fun r σ' => ∃ n, ndg x.natAbs n ∧ r = some (vi (tln x n : Int)) ∧ σ' m 9 = (tln x n : Int) ∧ (∀ k, k < tln x n → σ' (m + 8) k = tcd x n k) ∧ (∀ j, j ≠ 9 → σ' m j = σ m j) ∧ (∀ q, q ≠ m → q ≠ m + 1 → q ≠ m + 2 → q ≠ m + 3 → q ≠ m + 8 → q ≠ m + 9 → σ' q = σ q) ∧ (∀ r, r ≠ 126 → rE σ σ' m r)) 94 [some (.ref m), some (vi a), none, some (vi (tln x n : Int)), none, some (vi t), none] [] σ3 := by
    intro n hnd hn4
    have htb : tln x n ≤ n + 1 := by unfold tln; split <;> omega
    have htb1 : n ≤ tln x n := by unfold tln; split <;> omega
    have hn1 := hnd.1
    intro r
    induction r with
    | zero =>
      intro w hw σ3 g1 g2 g3 g4 g5 g6 t ht
      refine q_iload d_Mo_writes_94 rfl ?_
      refine q_iload_n d_Mo_writes_96 rfl ?_
      refine q_iconst d_Mo_writes_97 rfl ?_
      refine q_idiv (by omega) (by omega) (by omega) d_Mo_writes_98 ?_
      refine q_topi (show _ = ((tln x n / 2 : Nat) : Int) by rw [Int.tdiv_eq_ediv_of_nonneg (by omega)]; omega) ?_
      refine q_icmp_ge (tgt := 148) (by omega) (by omega) d_Mo_writes_99 (by decide) (fun c99 => ?_) (fun c99 => absurd c99 (by omega))
      refine q_aload_n d_Mo_writes_148 rfl ?_
      refine q_iload_n d_Mo_writes_149 rfl ?_
      refine q_pi hM0 pc_Mo 9 (by decide) w_fl_Mo_198 rfl rfl rfl rfl (by rfl) d_Mo_writes_150 ?_
      refine q_iload_n d_Mo_writes_153 rfl ?_
      exact q_iret rfl (⟨n, hnd, rfl, by rw [q_up_self], fun i hi => by rw [q_up_a _ _ (by omega), ← tcr_r hnd.1 hi]; by_cases h1 : i < w; exact g1 i h1; by_cases h2 : tln x n - 1 - i < w; have := g3 (tln x n - 1 - i) h2; rw [show tln x n - 1 - (tln x n - 1 - i) = i by omega] at this; exact this; rw [g2 i (by omega) (by omega)]; congr 1; omega, fun j hj => by rw [q_up_k _ _ hj, g6], fun q h1 h2 h3 h4 h5 h6 => by rw [q_up_a _ _ h1]; exact g4 q h1 h2 h3 h4 h5 h6, fun r hr => (g5 r hr).trans ⟨fun y hy => mr_o _ _ (by omega), by rw [q_up_a _ _ (by omega)], by rw [q_up_a _ _ (by omega)]⟩⟩) d_Mo_writes_154
    | succ r ihr =>
      intro w hw σ3 g1 g2 g3 g4 g5 g6 t ht
      refine q_iload d_Mo_writes_94 rfl ?_
      refine q_iload_n d_Mo_writes_96 rfl ?_
      refine q_iconst d_Mo_writes_97 rfl ?_
      refine q_idiv (by omega) (by omega) (by omega) d_Mo_writes_98 ?_
      refine q_topi (show _ = ((tln x n / 2 : Nat) : Int) by rw [Int.tdiv_eq_ediv_of_nonneg (by omega)]; omega) ?_
      refine q_icmp_ge (tgt := 148) (by omega) (by omega) d_Mo_writes_99 (by decide) (fun c99 => absurd c99 (by omega)) (fun c99 => ?_)
      refine q_aload_n d_Mo_writes_102 rfl ?_
      refine q_gr (by assumption) pc_Mo 8 (by decide) w_fl_Mo_33 rfl (by rfl) d_Mo_writes_103 ?_
      refine q_iload d_Mo_writes_106 rfl ?_
      refine q_ial (w) (by assumption) (by omega) (by omega) (by omega) d_Mo_writes_108 ?_
      refine q_topi (g2 w (by omega) (by omega)) ?_
      refine q_ist_6 d_Mo_writes_109 (by decide) rfl ?_
      refine q_aload_n d_Mo_writes_111 rfl ?_
      refine q_gr (by assumption) pc_Mo 8 (by decide) w_fl_Mo_33 rfl (by rfl) d_Mo_writes_112 ?_
      refine q_iload d_Mo_writes_115 rfl ?_
      refine q_aload_n d_Mo_writes_117 rfl ?_
      refine q_gr (by assumption) pc_Mo 8 (by decide) w_fl_Mo_33 rfl (by rfl) d_Mo_writes_118 ?_
      refine q_iload_n d_Mo_writes_121 rfl ?_
      refine q_iconst d_Mo_writes_122 rfl ?_
      refine q_isub d_Mo_writes_123 ?_
      refine q_iload d_Mo_writes_124 rfl ?_
      refine q_isub d_Mo_writes_126 ?_
      refine q_ial (tln x n - 1 - w) (by assumption) (by omega) (by omega) (by omega) d_Mo_writes_127 ?_
      refine q_topi (g2 (tln x n - 1 - w) (by omega) (by omega)) ?_
      refine q_ias (w) (by assumption) (by omega) (by omega) (by omega) d_Mo_writes_128 ?_
      refine q_aload_n d_Mo_writes_129 rfl ?_
      refine q_gr (by assumption) pc_Mo 8 (by decide) w_fl_Mo_33 rfl (by rfl) d_Mo_writes_130 ?_
      refine q_iload_n d_Mo_writes_133 rfl ?_
      refine q_iconst d_Mo_writes_134 rfl ?_
      refine q_isub d_Mo_writes_135 ?_
      refine q_iload d_Mo_writes_136 rfl ?_
      refine q_isub d_Mo_writes_138 ?_
      refine q_iload d_Mo_writes_139 rfl ?_
      refine q_ias (tln x n - 1 - w) (by assumption) (by omega) (by omega) (by omega) d_Mo_writes_141 ?_
      refine q_iinc_5 d_Mo_writes_142 (by decide) rfl ?_
      refine q_goto (tgt := 94) d_Mo_writes_145 (by decide) ?_
      refine q_drop_6 ?_
      refine ihr (w + 1) (by omega) _ (fun i hi => ?_) (fun i h1 h2 => by rw [q_up_k _ _ (by omega), q_up_k _ _ (by omega)]; exact g2 i (by omega) (by omega)) (fun i hi => ?_) (fun q h1 h2 h3 h4 h5 h6 => by rw [q_up_a _ _ h5, q_up_a _ _ h5]; exact g4 q h1 h2 h3 h4 h5 h6) (fun r hr => (g5 r hr).trans ⟨fun y hy => by rw [mr_o _ _ (by omega)]; exact mr_o _ _ (by omega), by rw [q_up_a _ _ (by omega), q_up_a _ _ (by omega)], by rw [q_up_a _ _ (by omega), q_up_a _ _ (by omega)]⟩) (by rw [q_up_a _ _ (by omega), q_up_a _ _ (by omega)]; exact g6) _ (by omega)
      · by_cases ei : i = w
        · subst ei; rw [q_up_k _ _ (by omega), q_up_self]
        · rw [q_up_k _ _ (by omega), q_up_k _ _ ei]; exact g1 i (by omega)
      · by_cases ei : i = w
        · subst ei; rw [q_up_self]
        · rw [q_up_k _ _ (by omega), q_up_k _ _ (by omega)]; exact g3 i (by omega)
  have loop : ∀ (fu k : Nat) (σ1 : q_S) (Y : Int), k + fu = 390 → k ≤ 385 → rV σ1 m 126 Y → Y.natAbs = x.natAbs / 10 ^ k → (∀ i, i < k → σ1 (m + 8) i = 48 + dgd x.natAbs i) → (∀ q, q ≠ m → q ≠ m + 1 → q ≠ m + 2 → q ≠ m + 3 → q ≠ m + 8 → q ≠ m + 9 → σ1 q = σ q) → (∀ r, r ≠ 126 → rE σ σ1 m r) → σ1 m = σ m → (1 ≤ k → (k = 1 ∨ 10 ^ (k - 1) ≤ x.natAbs)) → ∀ t : Int, t = k → q_T l K L R_Mo b_Mo_writes 7 (some .int) 2 (fun r σ' => ∃ n, ndg x.natAbs n ∧ r = some (vi (tln x n : Int)) ∧ σ' m 9 = (tln x n : Int) ∧ (∀ k, k < tln x n → σ' (m + 8) k = tcd x n k) ∧ (∀ j, j ≠ 9 → σ' m j = σ m j) ∧ (∀ q, q ≠ m → q ≠ m + 1 → q ≠ m + 2 → q ≠ m + 3 → q ≠ m + 8 → q ≠ m + 9 → σ' q = σ q) ∧ (∀ r, r ≠ 126 → rE σ σ' m r)) 27 [some (.ref m), some (vi a), some (vi (if 0 ≤ x.sign then (0 : Int) else 1)), some (vi t), some (vi (if k = 0 ∨ 0 < x.natAbs / 10 ^ k then (1 : Int) else 0)), none, none] [] σ1 := by
    intro fu
    induction fu with
    | zero =>
      intro k σ1 Y hfu hk5 f1 fy f2 f3 f4 f5 f6 t ht
      omega
    | succ fu ih =>
      intro k σ1 Y hfu hk5 f1 fy f2 f3 f4 f5 f6 t ht
      refine q_iload d_Mo_writes_27 rfl ?_
      refine q_if_eq (tgt := 76) (by split <;> omega) d_Mo_writes_29 (by decide) (fun cm => ?_) (fun cm => ?_)
      · have hnm : ¬ (k = 0 ∨ 0 < x.natAbs / 10 ^ k) := by intro h9; rw [if_pos h9] at cm; omega
        have hnd : ndg x.natAbs k := ⟨by omega, (Nat.div_eq_zero_iff_lt (Nat.pow_pos (by decide))).1 (by omega), f6 (by omega)⟩
        have rev := revl k hnd (by omega)
        have htb : tln x k ≤ k + 1 := by unfold tln; split <;> omega
        have htb1 : k ≤ tln x k := by unfold tln; split <;> omega
        refine q_iload_n d_Mo_writes_76 rfl ?_
        refine q_if_eq (tgt := 91) (by split <;> omega) d_Mo_writes_77 (by decide) (fun cn => ?_) (fun cn => ?_)
        · refine q_iconst d_Mo_writes_91 rfl ?_
          refine q_ist_5 d_Mo_writes_92 (by decide) rfl ?_
          have hx0 : ¬ x < 0 := by
            intro h9
            rw [if_neg (by rw [Int.sign_eq_neg_one_of_neg h9]; omega)] at cn; omega
          have htl : tln x k = k := if_neg hx0
          refine q_drop_4 ?_
          refine q_drop_2 ?_
          rw [show t = ((tln x k : Nat) : Int) by rw [htl]; exact ht]
          exact rev (tln x k / 2) 0 (by omega) σ1 (fun i hi => by omega) (fun i h1 h2 => by rw [f2 i (by omega)]; unfold tcr; rw [if_neg (by omega)]) (fun i hi => by omega) f3 f4 f5 _ rfl
        · refine q_aload_n d_Mo_writes_80 rfl ?_
          refine q_gr (by assumption) pc_Mo 8 (by decide) w_fl_Mo_33 rfl (by rfl) d_Mo_writes_81 ?_
          refine q_iload_n d_Mo_writes_84 rfl ?_
          refine q_bipush d_Mo_writes_85 (by decide) ?_
          refine q_ias (k) (by assumption) (by omega) (by omega) (by omega) d_Mo_writes_87 ?_
          refine q_iinc_3 d_Mo_writes_88 (by decide) rfl ?_
          refine q_iconst d_Mo_writes_91 rfl ?_
          refine q_ist_5 d_Mo_writes_92 (by decide) rfl ?_
          have hx0 : x < 0 := by
            have h9 := sg3 x
            by_cases h8 : 0 ≤ x.sign
            · rw [if_pos h8] at cn; omega
            · rcases h9 with h9 | h9 | h9 <;> omega
          have htl : tln x k = k + 1 := if_pos hx0
          refine q_drop_4 ?_
          refine q_drop_2 ?_
          rw [show t + 1 = ((tln x k : Nat) : Int) by rw [htl]; omega]
          refine rev (tln x k / 2) 0 (by omega) _ (fun i hi => by omega) (fun i h1 h2 => ?_) (fun i hi => by omega) (fun q h1 h2 h3 h4 h5 h6 => by rw [q_up_a _ _ h5]; exact f3 q h1 h2 h3 h4 h5 h6) (fun r hr => (f4 r hr).trans ⟨fun y hy => mr_o _ _ (by omega), by rw [q_up_a _ _ (by omega)], by rw [q_up_a _ _ (by omega)]⟩) (by rw [q_up_a _ _ (by omega)]; exact f5) _ rfl
          unfold tcr
          by_cases h9 : i = k
          · rw [if_pos h9, h9, q_up_self]
          · rw [if_neg h9, q_up_k _ _ h9]; exact f2 i (by omega)
      · have hmo : k = 0 ∨ 0 < x.natAbs / 10 ^ k := by by_cases h9 : k = 0 ∨ 0 < x.natAbs / 10 ^ k; exact h9; rw [if_neg h9] at cm; exact absurd rfl cm
        have hkb := hpow k hmo
        refine q_aload_n d_Mo_writes_32 rfl ?_
        refine q_bipush d_Mo_writes_33 (by decide) ?_
        refine q_bipush d_Mo_writes_35 (by decide) ?_
        refine q_callV (As := [vi 126, vi 10]) (c_Mo_parts l K (r := 126) (x := Y) (s := 10) ⟨hM0, hM1, hM2, hM3, hM4, hM5, hM6, hM7, hM8, hM9⟩ (by decide) f1 (by decide)) w_cd_Mo_parts w_ini_Mo w_ml_Mo_128 w_im_Mo_parts w_se_Mo_parts (by assumption) rfl hd_Mo_parts rfl (Nat.le_of_ble_eq_true rfl) d_Mo_writes_37 (by decide) (by decide) (fun v σ2 hp => ?_)
        obtain ⟨rfl, k1, k2, k9, k3⟩ := hp
        refine q_topi (show _ = dgd x.natAbs k by unfold dgd; rw [fy]; exact (Int.natCast_emod _ _).symm) ?_
        have hq : (Y.natAbs : Int) / 10 = ((x.natAbs / 10 ^ (k + 1) : Nat) : Int) := by rw [fy, Nat.pow_succ, ← Nat.div_div_eq_div_mul]; exact (Int.natCast_ediv _ _).symm
        rw [hq] at k1
        have dr := dgd_r x.natAbs k
        have hY2 : (Y.sign * ((x.natAbs / 10 ^ (k + 1) : Nat) : Int)).natAbs = x.natAbs / 10 ^ (k + 1) := tn_s fy
        refine q_ist_5 d_Mo_writes_40 (by decide) rfl ?_
        refine q_aload_n d_Mo_writes_42 rfl ?_
        refine q_gr (by assumption) pc_Mo 8 (by decide) w_fl_Mo_33 rfl (by rfl) d_Mo_writes_43 ?_
        refine q_iload_n d_Mo_writes_46 rfl ?_
        refine q_bipush d_Mo_writes_47 (by decide) ?_
        refine q_iload d_Mo_writes_49 rfl ?_
        refine q_iadd d_Mo_writes_51 ?_
        refine q_ias (k) (by assumption) (by omega) (by omega) (by omega) d_Mo_writes_52 ?_
        refine q_iinc_3 d_Mo_writes_53 (by decide) rfl ?_
        refine q_aload_n d_Mo_writes_56 rfl ?_
        refine q_gr (by assumption) pc_Mo 2 (by decide) w_fl_Mo_14 rfl (by rfl) d_Mo_writes_57 ?_
        refine q_bipush d_Mo_writes_60 (by decide) ?_
        refine q_ial (126) (by assumption) (by omega) (by omega) (by omega) d_Mo_writes_62 ?_
        obtain ⟨ny, hUy, hty⟩ := k1
        have hny0 := hUy.zero hty
        rw [hY2] at hny0
        have hny1 := hUy.2.2.1
        refine q_topi (show _ = (ny : Int) by rw [q_up_a _ _ (by omega)]; exact hUy.1) ?_
        refine q_jn1 (V := (if k + 1 = 0 ∨ 0 < x.natAbs / 10 ^ (k + 1) then (1 : Int) else 0)) 71 (fun jn => ?_) ?_
        · refine q_if_le (tgt := 70) (by omega) d_Mo_writes_63 (by decide) (fun cs => ?_) (fun cs => ?_)
          · refine q_iconst d_Mo_writes_70 rfl ?_
            exact jn _ (by rw [if_neg]; omega)
          · refine q_iconst d_Mo_writes_66 rfl ?_
            refine q_goto (tgt := 71) d_Mo_writes_67 (by decide) ?_
            exact jn _ (by rw [if_pos]; omega)
        · refine q_ist_4 d_Mo_writes_71 (by decide) rfl ?_
          refine q_goto (tgt := 27) d_Mo_writes_73 (by decide) ?_
          refine q_drop_5 ?_
          exact ih (k + 1) _ _ (by omega) (by omega) ⟨ny, hUy.mv ⟨fun y hy => mr_o _ _ (by omega), by rw [q_up_a _ _ (by omega)], by rw [q_up_a _ _ (by omega)]⟩, fun h9 => by rw [mr_o _ _ (by omega)]; exact hty h9⟩ hY2 (fun i hi => if ei : i = k then by subst ei; rw [q_up_self] else by rw [q_up_k _ _ ei, k2 _ (by omega) (by omega) (by omega) (by omega)]; exact f2 i (by omega)) (fun q h1 h2 h3 h4 h5 h6 => by rw [q_up_a _ _ h5, k2 q h2 h3 h4 h6]; exact f3 q h1 h2 h3 h4 h5 h6) (fun r hr => ((f4 r hr).trans (k3 r hr)).trans ⟨fun y hy => mr_o _ _ (by omega), by rw [q_up_a _ _ (by omega)], by rw [q_up_a _ _ (by omega)]⟩) (by rw [q_up_a _ _ (by omega), k2 _ (by omega) (by omega) (by omega) (by omega)]; exact f5) (fun _ => hx2 hmo) _ (by omega)
  refine q_aload_n d_Mo_writes_0 rfl ?_
  refine q_bipush d_Mo_writes_1 (by decide) ?_
  refine q_iload_n d_Mo_writes_3 rfl ?_
  refine q_callV (As := [vi 126, vi a]) (c_Mo_copy l K (r := 126) (i := a) ⟨hM0, hM1, hM2, hM3, hM4, hM5, hM6, hM7, hM8, hM9⟩ (by decide) ha hx) w_cd_Mo_copy w_ini_Mo w_ml_Mo_69 w_im_Mo_copy w_se_Mo_copy (by assumption) rfl hd_Mo_copy rfl (Nat.le_of_ble_eq_true rfl) d_Mo_writes_4 (by decide) (by decide) (fun v σ1 hp => ?_)
  obtain ⟨rfl, k1, k2, -, k3⟩ := hp
  refine q_aload_n d_Mo_writes_7 rfl ?_
  refine q_gr (by assumption) pc_Mo 3 (by decide) w_fl_Mo_17 rfl (by rfl) d_Mo_writes_8 ?_
  refine q_iload_n d_Mo_writes_11 rfl ?_
  refine q_ial (a) (by assumption) (by omega) (by omega) (by omega) d_Mo_writes_12 ?_
  refine q_topi ((hx.mv (k3 a ha126)).sgn) ?_
  refine q_jn1 (V := (if 0 ≤ x.sign then (0 : Int) else 1)) 21 (fun jn => ?_) ?_
  · refine q_if_ge (tgt := 20) (by have := sgn_b x; omega) d_Mo_writes_13 (by decide) (fun cx => ?_) (fun cx => ?_)
    · refine q_iconst d_Mo_writes_20 rfl ?_
      exact jn _ ((if_pos cx).symm)
    · refine q_iconst d_Mo_writes_16 rfl ?_
      refine q_goto (tgt := 21) d_Mo_writes_17 (by decide) ?_
      exact jn _ ((if_neg cx).symm)
  · refine q_ist_n_2 d_Mo_writes_21 (by decide) rfl ?_
    refine q_iconst d_Mo_writes_22 rfl ?_
    refine q_ist_n_3 d_Mo_writes_23 (by decide) rfl ?_
    refine q_iconst d_Mo_writes_24 rfl ?_
    refine q_ist_4 d_Mo_writes_25 (by decide) rfl ?_
    exact loop 390 0 σ1 x (by omega) (by omega) k1 (by simp) (fun i hi => by omega) (fun q h1 h2 h3 h4 h5 h6 => k2 q h2 h3 h4 h6) k3 (k2 m (by omega) (by omega) (by omega) (by omega)) (fun h => by omega) _ rfl
