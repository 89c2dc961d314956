/-! DIVIDER: subtractDigit, addBack -/
/-- the window of the rest that begins at j -/
def wn (σ : q_S) (c j t : Nat) : Int := σ (c + 4) (j + t)
set_option maxHeartbeats 4000000 in
set_option maxRecDepth 100000 in
theorem c_Di_subtractDigit (l : Launch) (K : pw_K) {L : q_L} {σ : q_S} {c j n : Nat} {D : Int} (hL : diL L c) (hlen : σ (c + 5) 1 = n) (hjn : j + n < 160) (hm : ∀ k, k < n → 0 ≤ σ (c + 6) k ∧ σ (c + 6) k < 2147483648) (hd : ∀ t, t < n + 1 → 0 ≤ wn σ c j t ∧ wn σ c j t < 2147483648) (hD : 0 ≤ D ∧ D ≤ 2147483650) (hlo : -(2147483648 ^ (n + 1)) ≤ dv 2147483648 (wn σ c j) (n + 1) - D * dv 2147483648 (σ (c + 6)) n) : q_C l K L y_Di_subtractDigit b_Di_subtractDigit 12 (some .boolean) 0 [.ref c, vi j, vl D] σ (fun v σ' => (∃ bo : Int, v = some (vi bo) ∧ (bo = 0 ∨ bo = 1) ∧ dv 2147483648 (wn σ' c j) (n + 1) - bo * 2147483648 ^ (n + 1) = dv 2147483648 (wn σ c j) (n + 1) - D * dv 2147483648 (σ (c + 6)) n) ∧ (∀ t, t < n + 1 → 0 ≤ wn σ' c j t ∧ wn σ' c j t < 2147483648) ∧ (∀ t, (t < j ∨ j + n < t) → σ' (c + 4) t = σ (c + 4) t) ∧ ∀ q, q ≠ c + 4 → σ' q = σ q) := by
  obtain ⟨hc0, hn1, hn3, hn5, hn7⟩ := hL
  obtain ⟨⟨hr0, hr1⟩, -⟩ := hn3
  obtain ⟨⟨hm0, hm1⟩, -⟩ := hn5
  refine q_start [some (.ref c), some (vi j), some (vl D), none, none, none, none, none, none, none, none, none] (by decide) (Nat.le_of_ble_eq_true rfl) (fun q h => h) ?_
  have loop : ∀ (d k : Nat), k + d = n → ∀ (σ1 : q_S) (ca : Int), (∀ q, q ≠ c + 4 → σ1 q = σ q) → (∀ t, (t < j ∨ j + k ≤ t) → σ1 (c + 4) t = σ (c + 4) t) → (∀ t, t < k → 0 ≤ wn σ1 c j t ∧ wn σ1 c j t < 2147483648) → dv 2147483648 (wn σ1 c j) k + (-ca) * 2147483648 ^ k = dv 2147483648 (wn σ c j) k - D * dv 2147483648 (σ (c + 6)) k → (0 ≤ ca ∧ ca ≤ D + 1) → ∀ t : Int, t = k →  q_T l K L R_Di b_Di_subtractDigit 12 (some .boolean) 0 (fun v σ' => (∃ bo : Int, v = some (vi bo) ∧ (bo = 0 ∨ bo = 1) ∧ dv 2147483648 (wn σ' c j) (n + 1) - bo * 2147483648 ^ (n + 1) = dv 2147483648 (wn σ c j) (n + 1) - D * dv 2147483648 (σ (c + 6)) n) ∧ (∀ t, t < n + 1 → 0 ≤ wn σ' c j t ∧ wn σ' c j t < 2147483648) ∧ (∀ t, (t < j ∨ j + n < t) → σ' (c + 4) t = σ (c + 4) t) ∧ ∀ q, q ≠ c + 4 → σ' q = σ q) 15 [some (.ref c), some (vi j), some (vl D), none, some (vi (n : Int)), some (vl ca), none, some (vi t), none, none, none, none] [] σ1 := by
    intro d
    induction d with
    | zero =>
      intro k hk σ1 ca f1 f2 f3 f4 f5 t ht
      obtain rfl : k = n := by omega
      have hwk : wn σ c j k = σ (c + 4) (j + k) := rfl
      have hrk := hd k (by omega)
      rw [hwk] at hrk
      have hgb : -2147483648 ≤ σ (c + 4) (j + k) - ca := by
        have g1 := (dv_range (B := 2147483648) (by decide) f3).2
        have g2 : dv 2147483648 (wn σ c j) (k + 1) = dv 2147483648 (wn σ c j) k + σ (c + 4) (j + k) * 2147483648 ^ k := rfl
        have g3 := ip_pos (B := 2147483648) (by decide) k
        rcases Int.lt_or_le (σ (c + 4) (j + k) - ca) (-2147483648) with g | g
        · exfalso
          have g4 := Int.mul_le_mul_of_nonneg_right (show σ (c + 4) (j + k) - ca ≤ -2147483649 by omega) (Int.le_of_lt g3)
          rw [g2, Int.pow_succ] at hlo
          rw [Int.sub_mul] at g4
          have g6 := f4
          rw [Int.neg_mul] at g6
          omega
        · exact g
      have hend : ∀ bo : Int, (bo = 0 ∨ bo = 1) → (σ (c + 4) (j + k) - ca) % 2147483648 = (σ (c + 4) (j + k) - ca) + bo * 2147483648 → (∃ bo' : Int, some (vi bo) = some (vi bo') ∧ (bo' = 0 ∨ bo' = 1) ∧ dv 2147483648 (wn (q_up σ1 (c + 4) (j + k) ((σ (c + 4) (j + k) - ca) % 2147483648)) c j) (k + 1) - bo' * 2147483648 ^ (k + 1) = dv 2147483648 (wn σ c j) (k + 1) - D * dv 2147483648 (σ (c + 6)) k) ∧ (∀ t, t < k + 1 → 0 ≤ wn (q_up σ1 (c + 4) (j + k) ((σ (c + 4) (j + k) - ca) % 2147483648)) c j t ∧ wn (q_up σ1 (c + 4) (j + k) ((σ (c + 4) (j + k) - ca) % 2147483648)) c j t < 2147483648) ∧ (∀ t, (t < j ∨ j + k < t) → q_up σ1 (c + 4) (j + k) ((σ (c + 4) (j + k) - ca) % 2147483648) (c + 4) t = σ (c + 4) t) ∧ ∀ q, q ≠ c + 4 → q_up σ1 (c + 4) (j + k) ((σ (c + 4) (j + k) - ca) % 2147483648) q = σ q := by
        intro bo hb he
        have hrow : ∀ t, t ≠ k → wn (q_up σ1 (c + 4) (j + k) ((σ (c + 4) (j + k) - ca) % 2147483648)) c j t = wn σ1 c j t := fun t ht => q_up_k _ _ (by omega)
        have hself : wn (q_up σ1 (c + 4) (j + k) ((σ (c + 4) (j + k) - ca) % 2147483648)) c j k = (σ (c + 4) (j + k) - ca) % 2147483648 := q_up_self _ _ _ _
        refine ⟨⟨bo, rfl, hb, ?_⟩, fun t ht => ?_, fun t ht => ?_, fun q hq => by rw [q_up_a _ _ hq]; exact f1 q hq⟩
        · rw [dv_s, dv_congr (h := wn σ1 c j) (fun t ht => hrow t (by omega)), hself, he, dv_s 2147483648 (wn σ c j), hwk, Int.pow_succ]
          grind
        · by_cases e : t = k
          · subst e; rw [hself]; omega
          · rw [hrow t e]; exact f3 t (by omega)
        · rw [q_up_k _ _ (by omega)]; exact f2 t (by omega)
      refine q_iload d_Di_subtractDigit_15 rfl ?_
      refine q_iload d_Di_subtractDigit_17 rfl ?_
      refine q_icmp_ge (tgt := 108) (by omega) (by omega) d_Di_subtractDigit_19 (by decide) (fun c19 => ?_) (fun c19 => absurd c19 (by omega))
      refine q_aload_n d_Di_subtractDigit_108 rfl ?_
      refine q_gr (by assumption) pc_Di 1 (by decide) w_fl_Di_18 rfl (by rfl) d_Di_subtractDigit_109 ?_
      refine q_gr (by assumption) pc_Nu 0 (by decide) w_fl_Di_42 rfl (by rfl) d_Di_subtractDigit_112 ?_
      refine q_iload_n d_Di_subtractDigit_115 rfl ?_
      refine q_iload d_Di_subtractDigit_116 rfl ?_
      refine q_iadd d_Di_subtractDigit_118 ?_
      refine q_ial (j + k) (by assumption) (by omega) (by omega) (by omega) d_Di_subtractDigit_119 ?_
      refine q_topi (f2 _ (by omega)) ?_
      refine q_i2l (by have := hd k (by omega); unfold wn at this; omega) d_Di_subtractDigit_120 ?_
      refine q_lload d_Di_subtractDigit_121 rfl ?_
      refine q_lsub d_Di_subtractDigit_123 ?_
      refine q_lst_7 d_Di_subtractDigit_124 (by decide) rfl ?_
      refine q_aload_n d_Di_subtractDigit_126 rfl ?_
      refine q_gr (by assumption) pc_Di 1 (by decide) w_fl_Di_18 rfl (by rfl) d_Di_subtractDigit_127 ?_
      refine q_gr (by assumption) pc_Nu 0 (by decide) w_fl_Di_42 rfl (by rfl) d_Di_subtractDigit_130 ?_
      refine q_iload_n d_Di_subtractDigit_133 rfl ?_
      refine q_iload d_Di_subtractDigit_134 rfl ?_
      refine q_iadd d_Di_subtractDigit_136 ?_
      refine q_lload d_Di_subtractDigit_137 rfl ?_
      refine q_ldc2 (z := 2147483647) w_kl_Di_75 (by decide) d_Di_subtractDigit_139 ?_
      refine q_land (z := (σ (c + 4) (j + k) - ca) % 2147483648) (q_land31 _) d_Di_subtractDigit_142 ?_
      refine q_l2i d_Di_subtractDigit_143 ?_
      refine q_ias (j + k) (by assumption) (by omega) (by omega) (by omega) d_Di_subtractDigit_144 ?_
      refine q_lload d_Di_subtractDigit_145 rfl ?_
      refine q_lconst (z := 0) d_Di_subtractDigit_147 (by decide) ?_
      refine q_lcmp_ge (tgt := 156) (by have := hd k (by omega); unfold wn at this; omega) (by omega) d_Di_subtractDigit_148 d_Di_subtractDigit_149 (by decide) (fun cg => ?_) (fun cg => ?_)
      · refine q_iconst d_Di_subtractDigit_156 rfl ?_
        exact q_zret rfl (Or.inl rfl) (hend 0 (Or.inl rfl) (by omega)) d_Di_subtractDigit_157
      · refine q_iconst d_Di_subtractDigit_152 rfl ?_
        refine q_goto (tgt := 157) d_Di_subtractDigit_153 (by decide) ?_
        exact q_zret rfl (Or.inr rfl) (hend 1 (Or.inr rfl) (by omega)) d_Di_subtractDigit_157
    | succ d ih =>
      intro k hk σ1 ca f1 f2 f3 f4 f5 t ht
      refine q_iload d_Di_subtractDigit_15 rfl ?_
      refine q_iload d_Di_subtractDigit_17 rfl ?_
      refine q_icmp_ge (tgt := 108) (by omega) (by omega) d_Di_subtractDigit_19 (by decide) (fun c19 => absurd c19 (by omega)) (fun c19 => ?_)
      have r1 := hm k (by omega)
      have r2 := hd k (by omega)
      unfold wn at r2
      have r3 : 0 ≤ D * σ (c + 6) k ∧ D * σ (c + 6) k ≤ D * 2147483647 := ⟨Int.mul_nonneg hD.1 r1.1, Int.mul_le_mul_of_nonneg_left (by omega) hD.1⟩
      obtain ⟨pr, hpr⟩ : ∃ pr : Int, pr = D * σ (c + 6) k + ca := ⟨_, rfl⟩
      obtain ⟨gp, hgp⟩ : ∃ gp : Int, gp = σ (c + 4) (j + k) - pr % 2147483648 := ⟨_, rfl⟩
      obtain ⟨nb, hnb⟩ : ∃ nb : Int, nb = if gp < 0 then 1 else 0 := ⟨_, rfl⟩
      have r4 : 0 ≤ pr ∧ pr ≤ D * 2147483648 + 1 := by omega
      have r5 : 0 ≤ pr / 2147483648 ∧ pr / 2147483648 ≤ D := by omega
      have r6 : (nb = 0 ∨ nb = 1) ∧ gp % 2147483648 = gp + nb * 2147483648 := by rw [hnb]; split <;> omega
      refine q_lload_n d_Di_subtractDigit_22 rfl ?_
      refine q_aload_n d_Di_subtractDigit_23 rfl ?_
      refine q_gr (by assumption) pc_Di 2 (by decide) w_fl_Di_21 rfl (by rfl) d_Di_subtractDigit_24 ?_
      refine q_gr (by assumption) pc_Nu 0 (by decide) w_fl_Di_42 rfl (by rfl) d_Di_subtractDigit_27 ?_
      refine q_iload d_Di_subtractDigit_30 rfl ?_
      refine q_ial (k) (by assumption) (by omega) (by omega) (by omega) d_Di_subtractDigit_32 ?_
      refine q_topi (show _ = σ (c + 6) k by rw [f1 _ (by omega)]) ?_
      refine q_i2l (by omega) d_Di_subtractDigit_33 ?_
      refine q_lmul d_Di_subtractDigit_34 ?_
      refine q_lload d_Di_subtractDigit_35 rfl ?_
      refine q_ladd d_Di_subtractDigit_37 ?_
      refine q_topl hpr.symm ?_
      refine q_lst_8 d_Di_subtractDigit_38 (by decide) rfl ?_
      refine q_aload_n d_Di_subtractDigit_40 rfl ?_
      refine q_gr (by assumption) pc_Di 1 (by decide) w_fl_Di_18 rfl (by rfl) d_Di_subtractDigit_41 ?_
      refine q_gr (by assumption) pc_Nu 0 (by decide) w_fl_Di_42 rfl (by rfl) d_Di_subtractDigit_44 ?_
      refine q_iload_n d_Di_subtractDigit_47 rfl ?_
      refine q_iload d_Di_subtractDigit_48 rfl ?_
      refine q_iadd d_Di_subtractDigit_50 ?_
      refine q_ial (j + k) (by assumption) (by omega) (by omega) (by omega) d_Di_subtractDigit_51 ?_
      refine q_topi (f2 _ (by omega)) ?_
      refine q_i2l (by omega) d_Di_subtractDigit_52 ?_
      refine q_lload d_Di_subtractDigit_53 rfl ?_
      refine q_ldc2 (z := 2147483647) w_kl_Di_75 (by decide) d_Di_subtractDigit_55 ?_
      refine q_land (z := pr % 2147483648) (q_land31 _) d_Di_subtractDigit_58 ?_
      refine q_lsub d_Di_subtractDigit_59 ?_
      refine q_topl hgp.symm ?_
      refine q_lst_10 d_Di_subtractDigit_60 (by decide) rfl ?_
      refine q_lload d_Di_subtractDigit_62 rfl ?_
      refine q_bipush d_Di_subtractDigit_64 (by decide) ?_
      refine q_lushr (z := pr / 2147483648) (q_lushr31 (by omega)) d_Di_subtractDigit_66 ?_
      refine q_lload d_Di_subtractDigit_67 rfl ?_
      refine q_lconst (z := 0) d_Di_subtractDigit_69 (by decide) ?_
      refine q_jn2 (V := nb) 79 (fun jn => ?_) ?_
      · refine q_lcmp_ge (tgt := 78) (by omega) (by omega) d_Di_subtractDigit_70 d_Di_subtractDigit_71 (by decide) (fun cg => ?_) (fun cg => ?_)
        · refine q_iconst d_Di_subtractDigit_78 rfl ?_
          exact jn _ (by rw [hnb]; exact (if_neg (by omega)).symm)
        · refine q_iconst d_Di_subtractDigit_74 rfl ?_
          refine q_goto (tgt := 79) d_Di_subtractDigit_75 (by decide) ?_
          exact jn _ (by rw [hnb]; exact (if_pos (by omega)).symm)
      · refine q_i2l (by omega) d_Di_subtractDigit_79 ?_
        refine q_ladd d_Di_subtractDigit_80 ?_
        refine q_lst_5 d_Di_subtractDigit_81 (by decide) rfl ?_
        refine q_aload_n d_Di_subtractDigit_83 rfl ?_
        refine q_gr (by assumption) pc_Di 1 (by decide) w_fl_Di_18 rfl (by rfl) d_Di_subtractDigit_84 ?_
        refine q_gr (by assumption) pc_Nu 0 (by decide) w_fl_Di_42 rfl (by rfl) d_Di_subtractDigit_87 ?_
        refine q_iload_n d_Di_subtractDigit_90 rfl ?_
        refine q_iload d_Di_subtractDigit_91 rfl ?_
        refine q_iadd d_Di_subtractDigit_93 ?_
        refine q_lload d_Di_subtractDigit_94 rfl ?_
        refine q_ldc2 (z := 2147483647) w_kl_Di_75 (by decide) d_Di_subtractDigit_96 ?_
        refine q_land (z := gp % 2147483648) (q_land31 _) d_Di_subtractDigit_99 ?_
        refine q_l2i d_Di_subtractDigit_100 ?_
        refine q_ias (j + k) (by assumption) (by omega) (by omega) (by omega) d_Di_subtractDigit_101 ?_
        refine q_iinc_7 d_Di_subtractDigit_102 (by decide) rfl ?_
        refine q_goto (tgt := 15) d_Di_subtractDigit_105 (by decide) ?_
        refine q_drop_8 (q_drop_10 ?_)
        have hrow : ∀ t, t ≠ k → wn (q_up σ1 (c + 4) (j + k) (gp % 2147483648)) c j t = wn σ1 c j t := fun t ht => q_up_k _ _ (by omega)
        have hself : wn (q_up σ1 (c + 4) (j + k) (gp % 2147483648)) c j k = gp % 2147483648 := q_up_self _ _ _ _
        exact ih (k + 1) (by omega) _ _ (fun q hq => by rw [q_up_a _ _ hq]; exact f1 q hq) (fun t ht => by rw [q_up_k _ _ (by omega)]; exact f2 t (by omega)) (fun t ht => if e : t = k then by subst e; rw [hself]; omega else by rw [hrow t e]; exact f3 t (by omega)) (by
          rw [dv_step (c := -ca) (t := -(pr / 2147483648 + nb)) (s := σ (c + 4) (j + k) - D * σ (c + 6) k) f4 (fun t ht => hrow t (by omega)) (by rw [hself]; omega), dv_s, dv_s]
          show _ = dv 2147483648 (wn σ c j) k + σ (c + 4) (j + k) * 2147483648 ^ k - _
          grind) (by omega) _ (by omega)
  refine q_aload_n d_Di_subtractDigit_0 rfl ?_
  refine q_gr hc0 pc_Di 2 (by decide) w_fl_Di_21 rfl (by rfl) d_Di_subtractDigit_1 ?_
  refine q_gi hm0 pc_Nu 1 (by decide) w_fl_Di_30 rfl (by rfl) d_Di_subtractDigit_4 ?_
  refine q_topi hlen ?_
  refine q_ist_4 d_Di_subtractDigit_7 (by decide) rfl ?_
  refine q_lconst (z := 0) d_Di_subtractDigit_9 (by decide) ?_
  refine q_lst_5 d_Di_subtractDigit_10 (by decide) rfl ?_
  refine q_iconst d_Di_subtractDigit_12 rfl ?_
  refine q_ist_7 d_Di_subtractDigit_13 (by decide) rfl ?_
  exact loop n 0 (by omega) σ 0 (fun q _ => rfl) (fun t _ => rfl) (fun t ht => by omega) (by simp [dv]) (by omega) _ rfl
set_option maxHeartbeats 4000000 in
set_option maxRecDepth 100000 in
theorem c_Di_addBack (l : Launch) (K : pw_K) {L : q_L} {σ : q_S} {c j n : Nat} (hL : diL L c) (hlen : σ (c + 5) 1 = n) (hjn : j + n < 160) (hm : ∀ k, k < n → 0 ≤ σ (c + 6) k ∧ σ (c + 6) k < 2147483648) (hd : ∀ t, t < n + 1 → 0 ≤ wn σ c j t ∧ wn σ c j t < 2147483648) : q_C l K L y_Di_addBack b_Di_addBack 8 none 0 [.ref c, vi j] σ (fun v σ' => v = none ∧ (∃ co : Int, (co = 0 ∨ co = 1) ∧ dv 2147483648 (wn σ' c j) (n + 1) + co * 2147483648 ^ (n + 1) = dv 2147483648 (wn σ c j) (n + 1) + dv 2147483648 (σ (c + 6)) n) ∧ (∀ t, t < n + 1 → 0 ≤ wn σ' c j t ∧ wn σ' c j t < 2147483648) ∧ (∀ t, (t < j ∨ j + n < t) → σ' (c + 4) t = σ (c + 4) t) ∧ ∀ q, q ≠ c + 4 → σ' q = σ q) := by
  obtain ⟨hc0, hn1, hn3, hn5, hn7⟩ := hL
  obtain ⟨⟨hr0, hr1⟩, -⟩ := hn3
  obtain ⟨⟨hm0, hm1⟩, -⟩ := hn5
  refine q_start [some (.ref c), some (vi j), none, none, none, none, none, none] (by decide) (Nat.le_of_ble_eq_true rfl) (fun q h => h) ?_
  have loop : ∀ (d k : Nat), k + d = n → ∀ (σ1 : q_S) (ca : Int), (∀ q, q ≠ c + 4 → σ1 q = σ q) → (∀ t, (t < j ∨ j + k ≤ t) → σ1 (c + 4) t = σ (c + 4) t) → (∀ t, t < k → 0 ≤ wn σ1 c j t ∧ wn σ1 c j t < 2147483648) → dv 2147483648 (wn σ1 c j) k + ca * 2147483648 ^ k = dv 2147483648 (wn σ c j) k + dv 2147483648 (σ (c + 6)) k → (0 ≤ ca ∧ ca ≤ 1) → ∀ t : Int, t = k →  q_T l K L R_Di b_Di_addBack 8 none 0 (fun v σ' => v = none ∧ (∃ co : Int, (co = 0 ∨ co = 1) ∧ dv 2147483648 (wn σ' c j) (n + 1) + co * 2147483648 ^ (n + 1) = dv 2147483648 (wn σ c j) (n + 1) + dv 2147483648 (σ (c + 6)) n) ∧ (∀ t, t < n + 1 → 0 ≤ wn σ' c j t ∧ wn σ' c j t < 2147483648) ∧ (∀ t, (t < j ∨ j + n < t) → σ' (c + 4) t = σ (c + 4) t) ∧ ∀ q, q ≠ c + 4 → σ' q = σ q) 13 [some (.ref c), some (vi j), some (vi (n : Int)), some (vl ca), none, some (vi t), none, none] [] σ1 := by
    intro d
    induction d with
    | zero =>
      intro k hk σ1 ca f1 f2 f3 f4 f5 t ht
      obtain rfl : k = n := by omega
      have hwk : wn σ c j k = σ (c + 4) (j + k) := rfl
      have hrk := hd k (by omega)
      rw [hwk] at hrk
      have hend : ∀ co : Int, (co = 0 ∨ co = 1) → ((σ (c + 4) (j + k) + ca) % 2147483648) + co * 2147483648 = σ (c + 4) (j + k) + ca → (none : Option Value) = none ∧ (∃ co' : Int, (co' = 0 ∨ co' = 1) ∧ dv 2147483648 (wn (q_up σ1 (c + 4) (j + k) ((σ (c + 4) (j + k) + ca) % 2147483648)) c j) (k + 1) + co' * 2147483648 ^ (k + 1) = dv 2147483648 (wn σ c j) (k + 1) + dv 2147483648 (σ (c + 6)) k) ∧ (∀ t, t < k + 1 → 0 ≤ wn (q_up σ1 (c + 4) (j + k) ((σ (c + 4) (j + k) + ca) % 2147483648)) c j t ∧ wn (q_up σ1 (c + 4) (j + k) ((σ (c + 4) (j + k) + ca) % 2147483648)) c j t < 2147483648) ∧ (∀ t, (t < j ∨ j + k < t) → q_up σ1 (c + 4) (j + k) ((σ (c + 4) (j + k) + ca) % 2147483648) (c + 4) t = σ (c + 4) t) ∧ ∀ q, q ≠ c + 4 → q_up σ1 (c + 4) (j + k) ((σ (c + 4) (j + k) + ca) % 2147483648) q = σ q := by
        intro co hb he
        have hrow : ∀ t, t ≠ k → wn (q_up σ1 (c + 4) (j + k) ((σ (c + 4) (j + k) + ca) % 2147483648)) c j t = wn σ1 c j t := fun t ht => q_up_k _ _ (by omega)
        have hself : wn (q_up σ1 (c + 4) (j + k) ((σ (c + 4) (j + k) + ca) % 2147483648)) c j k = ((σ (c + 4) (j + k) + ca) % 2147483648) := q_up_self _ _ _ _
        refine ⟨rfl, ⟨co, hb, ?_⟩, fun t ht => ?_, fun t ht => ?_, fun q hq => by rw [q_up_a _ _ hq]; exact f1 q hq⟩
        · rw [dv_s, dv_congr (h := wn σ1 c j) (fun t ht => hrow t (by omega)), hself, show ((σ (c + 4) (j + k) + ca) % 2147483648) = σ (c + 4) (j + k) + ca - co * 2147483648 by omega, dv_s 2147483648 (wn σ c j), hwk, Int.pow_succ]
          grind
        · by_cases e : t = k
          · subst e; rw [hself]; omega
          · rw [hrow t e]; exact f3 t (by omega)
        · rw [q_up_k _ _ (by omega)]; exact f2 t (by omega)
      refine q_iload d_Di_addBack_13 rfl ?_
      refine q_iload_n d_Di_addBack_15 rfl ?_
      refine q_icmp_ge (tgt := 79) (by omega) (by omega) d_Di_addBack_16 (by decide) (fun c16 => ?_) (fun c16 => absurd c16 (by omega))
      refine q_aload_n d_Di_addBack_79 rfl ?_
      refine q_gr (by assumption) pc_Di 1 (by decide) w_fl_Di_18 rfl (by rfl) d_Di_addBack_80 ?_
      refine q_gr (by assumption) pc_Nu 0 (by decide) w_fl_Di_42 rfl (by rfl) d_Di_addBack_83 ?_
      refine q_iload_n d_Di_addBack_86 rfl ?_
      refine q_iload_n d_Di_addBack_87 rfl ?_
      refine q_iadd d_Di_addBack_88 ?_
      refine q_aload_n d_Di_addBack_89 rfl ?_
      refine q_gr (by assumption) pc_Di 1 (by decide) w_fl_Di_18 rfl (by rfl) d_Di_addBack_90 ?_
      refine q_gr (by assumption) pc_Nu 0 (by decide) w_fl_Di_42 rfl (by rfl) d_Di_addBack_93 ?_
      refine q_iload_n d_Di_addBack_96 rfl ?_
      refine q_iload_n d_Di_addBack_97 rfl ?_
      refine q_iadd d_Di_addBack_98 ?_
      refine q_ial (j + k) (by assumption) (by omega) (by omega) (by omega) d_Di_addBack_99 ?_
      refine q_topi (f2 _ (by omega)) ?_
      refine q_i2l (by omega) d_Di_addBack_100 ?_
      refine q_lload_n d_Di_addBack_101 rfl ?_
      refine q_ladd d_Di_addBack_102 ?_
      refine q_ldc2 (z := 2147483647) w_kl_Di_75 (by decide) d_Di_addBack_103 ?_
      refine q_land (z := (σ (c + 4) (j + k) + ca) % 2147483648) (q_land31 _) d_Di_addBack_106 ?_
      refine q_l2i d_Di_addBack_107 ?_
      refine q_ias (j + k) (by assumption) (by omega) (by omega) (by omega) d_Di_addBack_108 ?_
      exact q_vret rfl (hend ((σ (c + 4) (j + k) + ca) / 2147483648) (by omega) (by omega)) d_Di_addBack_109
    | succ d ih =>
      intro k hk σ1 ca f1 f2 f3 f4 f5 t ht
      refine q_iload d_Di_addBack_13 rfl ?_
      refine q_iload_n d_Di_addBack_15 rfl ?_
      refine q_icmp_ge (tgt := 79) (by omega) (by omega) d_Di_addBack_16 (by decide) (fun c16 => absurd c16 (by omega)) (fun c16 => ?_)
      have r1 := hm k (by omega)
      have r2 := hd k (by omega)
      unfold wn at r2
      refine q_aload_n d_Di_addBack_19 rfl ?_
      refine q_gr (by assumption) pc_Di 1 (by decide) w_fl_Di_18 rfl (by rfl) d_Di_addBack_20 ?_
      refine q_gr (by assumption) pc_Nu 0 (by decide) w_fl_Di_42 rfl (by rfl) d_Di_addBack_23 ?_
      refine q_iload_n d_Di_addBack_26 rfl ?_
      refine q_iload d_Di_addBack_27 rfl ?_
      refine q_iadd d_Di_addBack_29 ?_
      refine q_ial (j + k) (by assumption) (by omega) (by omega) (by omega) d_Di_addBack_30 ?_
      refine q_topi (f2 _ (by omega)) ?_
      refine q_i2l (by omega) d_Di_addBack_31 ?_
      refine q_aload_n d_Di_addBack_32 rfl ?_
      refine q_gr (by assumption) pc_Di 2 (by decide) w_fl_Di_21 rfl (by rfl) d_Di_addBack_33 ?_
      refine q_gr (by assumption) pc_Nu 0 (by decide) w_fl_Di_42 rfl (by rfl) d_Di_addBack_36 ?_
      refine q_iload d_Di_addBack_39 rfl ?_
      refine q_ial (k) (by assumption) (by omega) (by omega) (by omega) d_Di_addBack_41 ?_
      refine q_topi (show _ = σ (c + 6) k by rw [f1 _ (by omega)]) ?_
      refine q_i2l (by omega) d_Di_addBack_42 ?_
      refine q_ladd d_Di_addBack_43 ?_
      refine q_lload_n d_Di_addBack_44 rfl ?_
      refine q_ladd d_Di_addBack_45 ?_
      refine q_lst_6 d_Di_addBack_46 (by decide) rfl ?_
      refine q_aload_n d_Di_addBack_48 rfl ?_
      refine q_gr (by assumption) pc_Di 1 (by decide) w_fl_Di_18 rfl (by rfl) d_Di_addBack_49 ?_
      refine q_gr (by assumption) pc_Nu 0 (by decide) w_fl_Di_42 rfl (by rfl) d_Di_addBack_52 ?_
      refine q_iload_n d_Di_addBack_55 rfl ?_
      refine q_iload d_Di_addBack_56 rfl ?_
      refine q_iadd d_Di_addBack_58 ?_
      refine q_lload d_Di_addBack_59 rfl ?_
      refine q_ldc2 (z := 2147483647) w_kl_Di_75 (by decide) d_Di_addBack_61 ?_
      refine q_land (z := (σ (c + 4) (j + k) + σ (c + 6) k + ca) % 2147483648) (q_land31 _) d_Di_addBack_64 ?_
      refine q_l2i d_Di_addBack_65 ?_
      refine q_ias (j + k) (by assumption) (by omega) (by omega) (by omega) d_Di_addBack_66 ?_
      refine q_lload d_Di_addBack_67 rfl ?_
      refine q_bipush d_Di_addBack_69 (by decide) ?_
      refine q_lushr (z := (σ (c + 4) (j + k) + σ (c + 6) k + ca) / 2147483648) (q_lushr31 (by omega)) d_Di_addBack_71 ?_
      refine q_lst_n_3 d_Di_addBack_72 (by decide) rfl ?_
      refine q_iinc_5 d_Di_addBack_73 (by decide) rfl ?_
      refine q_goto (tgt := 13) d_Di_addBack_76 (by decide) ?_
      refine q_drop_6 ?_
      have hrow : ∀ t, t ≠ k → wn (q_up σ1 (c + 4) (j + k) ((σ (c + 4) (j + k) + σ (c + 6) k + ca) % 2147483648)) c j t = wn σ1 c j t := fun t ht => q_up_k _ _ (by omega)
      have hself : wn (q_up σ1 (c + 4) (j + k) ((σ (c + 4) (j + k) + σ (c + 6) k + ca) % 2147483648)) c j k = (σ (c + 4) (j + k) + σ (c + 6) k + ca) % 2147483648 := q_up_self _ _ _ _
      exact ih (k + 1) (by omega) _ _ (fun q hq => by rw [q_up_a _ _ hq]; exact f1 q hq) (fun t ht => by rw [q_up_k _ _ (by omega)]; exact f2 t (by omega)) (fun t ht => if e : t = k then by subst e; rw [hself]; omega else by rw [hrow t e]; exact f3 t (by omega)) (by
        rw [dv_step (c := ca) (t := (σ (c + 4) (j + k) + σ (c + 6) k + ca) / 2147483648) (s := σ (c + 4) (j + k) + σ (c + 6) k) f4 (fun t ht => hrow t (by omega)) (by rw [hself]; omega), dv_s, dv_s]
        show _ = dv 2147483648 (wn σ c j) k + σ (c + 4) (j + k) * 2147483648 ^ k + _
        grind) (by omega) _ (by omega)
  refine q_aload_n d_Di_addBack_0 rfl ?_
  refine q_gr hc0 pc_Di 2 (by decide) w_fl_Di_21 rfl (by rfl) d_Di_addBack_1 ?_
  refine q_gi hm0 pc_Nu 1 (by decide) w_fl_Di_30 rfl (by rfl) d_Di_addBack_4 ?_
  refine q_topi hlen ?_
  refine q_ist_n_2 d_Di_addBack_7 (by decide) rfl ?_
  refine q_lconst (z := 0) d_Di_addBack_8 (by decide) ?_
  refine q_lst_n_3 d_Di_addBack_9 (by decide) rfl ?_
  refine q_iconst d_Di_addBack_10 rfl ?_
  refine q_ist_5 d_Di_addBack_11 (by decide) rfl ?_
  exact loop n 0 (by omega) σ 0 (fun q _ => rfl) (fun t _ => rfl) (fun t ht => by omega) (by simp [dv]) (by omega) _ rfl
