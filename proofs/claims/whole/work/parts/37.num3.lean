/-! NUM: subtractMagnitude, add -/
set_option maxHeartbeats 4000000 in
set_option maxRecDepth 100000 in
theorem c_Nu_subtractMagnitude (l : Launch) (K : pw_K) {L : q_L} {σ : q_S} {a b wa wb n : Nat} {X s y cmp : Int} (hLa : nL L a wa) (hLb : nL L b wb) (hd : a + 1 < b ∨ b + 1 < a) (hu : nU σ a wa n X s) (hb : nV σ b wb y) (hs : s = 1 ∨ s = -1) (hcr : -1 ≤ cmp ∧ cmp ≤ 1) (hcm : (0 < cmp ∧ (y.natAbs : Int) < X) ∨ (¬ 0 < cmp ∧ X < y.natAbs)) (hy : (y.natAbs : Int) < 2147483648 ^ wa) : q_C l K L y_Nu_subtractMagnitude b_Nu_subtractMagnitude 10 none 1 [.ref a, .ref b, vi cmp] σ (fun v σ' => v = none ∧ nV σ' a wa (s * (if 0 < cmp then X - y.natAbs else y.natAbs - X)) ∧ ∀ q, q ≠ a → q ≠ a + 1 → σ' q = σ q) := by
  obtain ⟨⟨hA, hB⟩, hw⟩ := hLa
  obtain ⟨⟨hA', hB'⟩, hw'⟩ := hLb
  obtain ⟨n', hu', gt⟩ := hb
  have hn' := (hu'.le gt).mpr hy
  obtain ⟨h1, h2, h3, h4, h5⟩ := hu
  obtain ⟨g1, g2, g3, g4, g5⟩ := hu'
  obtain ⟨R, hR, hR0⟩ : ∃ R : Int, (if 0 < cmp then X - y.natAbs else y.natAbs - X) = R ∧ 0 < R := ⟨_, rfl, by split <;> omega⟩
  obtain ⟨P, M, hP1, hP2, hPr, hMr, hPM⟩ : ∃ P M : Nat → Int, (∀ {k : Nat}, 0 < cmp → P k = pd (σ (a + 1)) n k ∧ M k = pd (σ (b + 1)) n' k) ∧ (∀ {k : Nat}, ¬ 0 < cmp → P k = pd (σ (b + 1)) n' k ∧ M k = pd (σ (a + 1)) n k) ∧ (∀ k, 0 ≤ P k ∧ P k < 2147483648) ∧ (∀ k, 0 ≤ M k ∧ M k < 2147483648) ∧ dv 2147483648 P (max n n') - dv 2147483648 M (max n n') = R := by
    by_cases hc0 : 0 < cmp
    · refine ⟨pd (σ (a + 1)) n, pd (σ (b + 1)) n', fun _ => ⟨rfl, rfl⟩, fun h => absurd hc0 h, pd_r h4, pd_r g4, ?_⟩
      rw [dv_pd (by omega), dv_pd (by omega), h5, g5, ← hR, if_pos hc0]
    · refine ⟨pd (σ (b + 1)) n', pd (σ (a + 1)) n, fun h => absurd h hc0, fun _ => ⟨rfl, rfl⟩, pd_r g4, pd_r h4, ?_⟩
      rw [dv_pd (by omega), dv_pd (by omega), h5, g5, ← hR, if_neg hc0]
  refine q_start [some (.ref a), some (.ref b), some (vi cmp), none, none, none, none, none, none, none] (by decide) (Nat.le_of_ble_eq_true rfl) (fun q h => h) ?_
  have hfin : ∀ (k : Nat), k = max n n' → ∀ (σ1 : q_S) (br : Int), σ1 a = σ a → (∀ j, k ≤ j → σ1 (a + 1) j = σ (a + 1) j) → (∀ q, q ≠ a → q ≠ a + 1 → σ1 q = σ q) → (∀ j, j < k → 0 ≤ σ1 (a + 1) j ∧ σ1 (a + 1) j < 2147483648) → dv 2147483648 (σ1 (a + 1)) k + (-br) * 2147483648 ^ k = dv 2147483648 P k - dv 2147483648 M k → (0 ≤ br ∧ br ≤ 1) → ∀ t : Int, t = k →  q_T l K L R_Nu b_Nu_subtractMagnitude 10 none 1 (fun v σ' => v = none ∧ nV σ' a wa (s * (if 0 < cmp then X - y.natAbs else y.natAbs - X)) ∧ ∀ q, q ≠ a → q ≠ a + 1 → σ' q = σ q) 147 [some (.ref a), some (.ref b), some (vi cmp), some (vi (max (n : Int) n')), some (vi br), some (vi t), none, none, none, none] [] σ1 := by
    intro k hk σ1 br hf1 hf2 hf3 hf4 hI hc t ht
    subst hk
    have hb0 : br = 0 := by
      rcases Int.lt_or_le 0 br with h | h
      · obtain rfl : br = 1 := by omega
        have := (dv_range (B := 2147483648) (by decide) hf4).2
        omega
      · omega
    subst hb0
    have hI : dv 2147483648 (σ1 (a + 1)) (max n n') = R := by rw [hPM] at hI; simpa using hI
    have hU : nU (q_up σ1 a 1 (max (n : Int) n')) a wa (max n n') R s := ⟨by rw [q_up_self]; omega, by rw [q_up_ne _ _ (by omega), hf1]; exact h2, by omega, fun j hj => by rw [q_up_a _ _ (by omega)]; exact hf4 j hj, by rw [q_up_a _ _ (by omega)]; exact hI⟩
    refine q_aload_n d_Nu_subtractMagnitude_147 rfl ?_
    refine q_iload_n d_Nu_subtractMagnitude_148 rfl ?_
    refine q_pi (by assumption) pc_Nu 1 (by decide) w_fl_Nu_13 rfl rfl rfl rfl (by rfl) d_Nu_subtractMagnitude_149 ?_
    refine q_aload_n d_Nu_subtractMagnitude_152 rfl ?_
    refine q_callV (As := []) (c_Nu_trim l K (L := L) ⟨⟨hA, hB⟩, hw⟩ (σ := q_up σ1 a 1 (max (n : Int) n')) (n := max n n') (m := R) (s := s) hU) w_cd_Nu_trim w_ini_Nu w_ml_Nu_64 w_im_Nu_trim w_se_Nu_trim (by assumption) rfl hd_Nu_trim rfl (Nat.le_of_ble_eq_true rfl) d_Nu_subtractMagnitude_153 (by decide) (by decide) (fun v σ2 hp => ?_)
    obtain ⟨rfl, ⟨n2, k1, k2⟩, k3⟩ := hp
    exact q_vret rfl (⟨rfl, by rw [hR]; exact k1.val k2 (x := s * R) (by rcases hs with rfl | rfl <;> omega) (fun _ => by rcases hs with rfl | rfl; exact (Int.sign_eq_one_of_pos (by omega)).symm; exact (Int.sign_eq_neg_one_of_neg (by omega)).symm), fun q h6 h7 => by rw [k3 q h6, q_up_a _ _ h6]; exact hf3 q h6 h7⟩) d_Nu_subtractMagnitude_156
  have loop : ∀ (d k : Nat), k + d = max n n' → ∀ (σ1 : q_S) (br : Int), σ1 a = σ a → (∀ j, k ≤ j → σ1 (a + 1) j = σ (a + 1) j) → (∀ q, q ≠ a → q ≠ a + 1 → σ1 q = σ q) → (∀ j, j < k → 0 ≤ σ1 (a + 1) j ∧ σ1 (a + 1) j < 2147483648) → dv 2147483648 (σ1 (a + 1)) k + (-br) * 2147483648 ^ k = dv 2147483648 P k - dv 2147483648 M k → (0 ≤ br ∧ br ≤ 1) → ∀ t : Int, t = k →  q_T l K L R_Nu b_Nu_subtractMagnitude 10 none 1 (fun v σ' => v = none ∧ nV σ' a wa (s * (if 0 < cmp then X - y.natAbs else y.natAbs - X)) ∧ ∀ q, q ≠ a → q ≠ a + 1 → σ' q = σ q) 32 [some (.ref a), some (.ref b), some (vi cmp), some (vi (max (n : Int) n')), some (vi br), some (vi t), none, none, none, none] [] σ1 := by
    intro d
    induction d with
    | zero =>
      intro k hk σ1 br hf1 hf2 hf3 hf4 hI hc t ht
      refine q_iload d_Nu_subtractMagnitude_32 rfl ?_
      refine q_iload_n d_Nu_subtractMagnitude_34 rfl ?_
      refine q_icmp_ge (tgt := 147) (by omega) (by omega) d_Nu_subtractMagnitude_35 (by decide) (fun c35 => ?_) (fun c35 => absurd c35 (by omega))
      exact hfin k (by omega) σ1 br hf1 hf2 hf3 hf4 hI hc _ ht
    | succ d ih =>
      intro k hk σ1 br hf1 hf2 hf3 hf4 hI hc t ht
      refine q_iload d_Nu_subtractMagnitude_32 rfl ?_
      refine q_iload_n d_Nu_subtractMagnitude_34 rfl ?_
      refine q_icmp_ge (tgt := 147) (by omega) (by omega) d_Nu_subtractMagnitude_35 (by decide) (fun c35 => absurd c35 (by omega)) (fun c35 => ?_)
      have r1 := pd_r h4 k
      have r2 := pd_r g4 k
      have ea : σ1 a 1 = n := by rw [hf1]; exact h1
      have eb : σ1 b 1 = n' := by rw [hf3 b (by omega) (by omega)]; exact g1
      have rP := hPr k
      have rM := hMr k
      have r1 := pd_r h4 k
      have r2 := pd_r g4 k
      have ea : σ1 a 1 = n := by rw [hf1]; exact h1
      have eb : σ1 b 1 = n' := by rw [hf3 b (by omega) (by omega)]; exact g1
      have rP := hPr k
      have rM := hMr k
      refine q_iload d_Nu_subtractMagnitude_38 rfl ?_
      refine q_aload_n d_Nu_subtractMagnitude_40 rfl ?_
      refine q_gi (by assumption) pc_Nu 1 (by decide) w_fl_Nu_13 rfl (by rfl) d_Nu_subtractMagnitude_41 ?_
      refine q_jn2 (V := pd (σ (a + 1)) n k) 58 (fun jn => ?_) ?_
      · refine q_icmp_ge (tgt := 57) (by omega) (by omega) d_Nu_subtractMagnitude_44 (by decide) (fun ck => ?_) (fun ck => ?_)
        · refine q_iconst d_Nu_subtractMagnitude_57 rfl ?_
          exact jn _ ((if_neg (by omega)).symm)
        · refine q_aload_n d_Nu_subtractMagnitude_47 rfl ?_
          refine q_gr (by assumption) pc_Nu 0 (by decide) w_fl_Nu_9 rfl (by rfl) d_Nu_subtractMagnitude_48 ?_
          refine q_iload d_Nu_subtractMagnitude_51 rfl ?_
          refine q_ial (k) (by assumption) (by omega) (by omega) (by omega) d_Nu_subtractMagnitude_53 ?_
          refine q_goto (tgt := 58) d_Nu_subtractMagnitude_54 (by decide) ?_
          exact jn _ (by rw [hf2 k (Nat.le_refl k)]; exact (if_pos (by omega)).symm)
      · refine q_ist_6 d_Nu_subtractMagnitude_58 (by decide) rfl ?_
        refine q_iload d_Nu_subtractMagnitude_60 rfl ?_
        refine q_aload_n d_Nu_subtractMagnitude_62 rfl ?_
        refine q_gi (by assumption) pc_Nu 1 (by decide) w_fl_Nu_13 rfl (by rfl) d_Nu_subtractMagnitude_63 ?_
        refine q_jn2 (V := pd (σ (b + 1)) n' k) 80 (fun jn => ?_) ?_
        · refine q_icmp_ge (tgt := 79) (by omega) (by omega) d_Nu_subtractMagnitude_66 (by decide) (fun ck => ?_) (fun ck => ?_)
          · refine q_iconst d_Nu_subtractMagnitude_79 rfl ?_
            exact jn _ ((if_neg (by omega)).symm)
          · refine q_aload_n d_Nu_subtractMagnitude_69 rfl ?_
            refine q_gr (by assumption) pc_Nu 0 (by decide) w_fl_Nu_9 rfl (by rfl) d_Nu_subtractMagnitude_70 ?_
            refine q_iload d_Nu_subtractMagnitude_73 rfl ?_
            refine q_ial (k) (by assumption) (by omega) (by omega) (by omega) d_Nu_subtractMagnitude_75 ?_
            refine q_goto (tgt := 80) d_Nu_subtractMagnitude_76 (by decide) ?_
            exact jn _ (by rw [hf3 (b + 1) (by omega) (by omega)]; exact (if_pos (by omega)).symm)
        · refine q_ist_7 d_Nu_subtractMagnitude_80 (by decide) rfl ?_
          refine q_iload_n d_Nu_subtractMagnitude_82 rfl ?_
          refine q_jnl1 (V := P k - M k - br) 111 (fun jn => ?_) ?_
          · refine q_if_le (tgt := 100) (by omega) d_Nu_subtractMagnitude_83 (by decide) (fun cm => ?_) (fun cm => ?_)
            · refine q_iload d_Nu_subtractMagnitude_100 rfl ?_
              refine q_i2l (by omega) d_Nu_subtractMagnitude_102 ?_
              refine q_iload d_Nu_subtractMagnitude_103 rfl ?_
              refine q_i2l (by omega) d_Nu_subtractMagnitude_105 ?_
              refine q_lsub d_Nu_subtractMagnitude_106 ?_
              refine q_iload d_Nu_subtractMagnitude_107 rfl ?_
              refine q_i2l (by omega) d_Nu_subtractMagnitude_109 ?_
              refine q_lsub d_Nu_subtractMagnitude_110 ?_
              exact jn _ (by rw [(hP2 (by omega)).1, (hP2 (by omega)).2])
            · refine q_iload d_Nu_subtractMagnitude_86 rfl ?_
              refine q_i2l (by omega) d_Nu_subtractMagnitude_88 ?_
              refine q_iload d_Nu_subtractMagnitude_89 rfl ?_
              refine q_i2l (by omega) d_Nu_subtractMagnitude_91 ?_
              refine q_lsub d_Nu_subtractMagnitude_92 ?_
              refine q_iload d_Nu_subtractMagnitude_93 rfl ?_
              refine q_i2l (by omega) d_Nu_subtractMagnitude_95 ?_
              refine q_lsub d_Nu_subtractMagnitude_96 ?_
              refine q_goto (tgt := 111) d_Nu_subtractMagnitude_97 (by decide) ?_
              exact jn _ (by rw [(hP1 (by omega)).1, (hP1 (by omega)).2])
          · refine q_lst_8 d_Nu_subtractMagnitude_111 (by decide) rfl ?_
            refine q_lload d_Nu_subtractMagnitude_113 rfl ?_
            refine q_lconst (z := 0) d_Nu_subtractMagnitude_115 (by decide) ?_
            refine q_jn2 (V := if P k - M k - br < 0 then 1 else 0) 125 (fun jn => ?_) ?_
            · refine q_lcmp_ge (tgt := 124) (by omega) (by omega) d_Nu_subtractMagnitude_116 d_Nu_subtractMagnitude_117 (by decide) (fun cb => ?_) (fun cb => ?_)
              · refine q_iconst d_Nu_subtractMagnitude_124 rfl ?_
                exact jn _ ((if_neg (by omega)).symm)
              · refine q_iconst d_Nu_subtractMagnitude_120 rfl ?_
                refine q_goto (tgt := 125) d_Nu_subtractMagnitude_121 (by decide) ?_
                exact jn _ ((if_pos (by omega)).symm)
            · refine q_ist_4 d_Nu_subtractMagnitude_125 (by decide) rfl ?_
              refine q_aload_n d_Nu_subtractMagnitude_127 rfl ?_
              refine q_gr (by assumption) pc_Nu 0 (by decide) w_fl_Nu_9 rfl (by rfl) d_Nu_subtractMagnitude_128 ?_
              refine q_iload d_Nu_subtractMagnitude_131 rfl ?_
              refine q_lload d_Nu_subtractMagnitude_133 rfl ?_
              refine q_ldc2 (z := 2147483647) w_kl_Nu_26 (by decide) d_Nu_subtractMagnitude_135 ?_
              refine q_land (z := (P k - M k - br) % 2147483648) (q_land31 _) d_Nu_subtractMagnitude_138 ?_
              refine q_l2i d_Nu_subtractMagnitude_139 ?_
              refine q_ias (k) (by assumption) (by omega) (by omega) (by omega) d_Nu_subtractMagnitude_140 ?_
              refine q_iinc_5 d_Nu_subtractMagnitude_141 (by decide) rfl ?_
              refine q_goto (tgt := 32) d_Nu_subtractMagnitude_144 (by decide) ?_
              refine q_drop_6 (q_drop_7 (q_drop_8 ?_))
              have hbr : (0 : Int) ≤ (if P k - M k - br < 0 then 1 else 0) ∧ (if P k - M k - br < 0 then (1 : Int) else 0) ≤ 1 := by split <;> omega
              have hgp : (P k - M k - br) % 2147483648 + (-(if P k - M k - br < 0 then (1 : Int) else 0)) * 2147483648 = -br + (P k - M k) := by split <;> omega
              exact ih (k + 1) (by omega) _ _ (by rw [q_up_a _ _ (by omega)]; exact hf1) (fun j hj => by rw [q_up_k _ _ (by omega)]; exact hf2 j (by omega)) (fun q h6 h7 => by rw [q_up_a _ _ h7]; exact hf3 q h6 h7) (fun j hj => if e : j = k then by subst e; rw [q_up_self]; omega else by rw [q_up_k _ _ e]; exact hf4 j (by omega)) (by rw [dv_step (s := P k - M k) hI (fun j hj => q_up_k _ _ (by omega)) (by rw [q_up_self]; exact hgp), dv_s, dv_s]; grind) hbr _ (by omega)
  refine q_aload_n d_Nu_subtractMagnitude_0 rfl ?_
  refine q_gi (by assumption) pc_Nu 1 (by decide) w_fl_Nu_13 rfl (by rfl) d_Nu_subtractMagnitude_1 ?_
  refine q_aload_n d_Nu_subtractMagnitude_4 rfl ?_
  refine q_gi (by assumption) pc_Nu 1 (by decide) w_fl_Nu_13 rfl (by rfl) d_Nu_subtractMagnitude_5 ?_
  refine q_mmax (by omega) (by omega) w_ml_Nu_58 d_Nu_subtractMagnitude_8 (by decide) (Nat.le_of_ble_eq_true rfl) ?_
  refine q_topi (show _ = max (n : Int) n' by rw [h1, g1]) ?_
  refine q_ist_n_3 d_Nu_subtractMagnitude_11 (by decide) rfl ?_
  refine q_iload_n d_Nu_subtractMagnitude_12 rfl ?_
  refine q_aload_n d_Nu_subtractMagnitude_13 rfl ?_
  refine q_gr (by assumption) pc_Nu 0 (by decide) w_fl_Nu_9 rfl (by rfl) d_Nu_subtractMagnitude_14 ?_
  refine q_len 0 rfl (by assumption) d_Nu_subtractMagnitude_17 ?_
  refine q_icmp_le (tgt := 26) (by omega) (by omega) d_Nu_subtractMagnitude_18 (by decide) (fun c18 => ?_) (fun c18 => absurd c18 (by omega))
  refine q_iconst d_Nu_subtractMagnitude_26 rfl ?_
  refine q_ist_4 d_Nu_subtractMagnitude_27 (by decide) rfl ?_
  refine q_iconst d_Nu_subtractMagnitude_29 rfl ?_
  refine q_ist_5 d_Nu_subtractMagnitude_30 (by decide) rfl ?_
  exact loop (max n n') 0 (by omega) σ 0 rfl (fun j _ => rfl) (fun q _ _ => rfl) (fun j hj => by omega) (by simp [dv]) (by omega) 0 rfl
theorem sg_mul {f : Int} (hf : f = 1 ∨ f = -1) (y : Int) : y.sign * f = (f * y).sign := by
  rcases hf with rfl | rfl
  · simp
  · rw [show (-1 : Int) * y = -y by omega, Int.sign_neg]; omega
theorem fy0 {f y : Int} (hf : f = 1 ∨ f = -1) (h : (f * y).sign = 0) : f * y = 0 := by have := sg3 (f * y); omega
theorem fy1 {f y : Int} (hf : f = 1 ∨ f = -1) (h : y = 0) : (f * y).sign = 0 := by rw [h]; simp
theorem sg0 {x : Int} (h : x.sign = 0) : x = 0 := by have := sg3 x; omega
theorem nV_sg {σ : q_S} {a w : Nat} {f y : Int} (h : nV σ a w y) (hf : f = 1 ∨ f = -1) : nV (q_up σ a 2 (f * y).sign) a w (f * y) := by
  obtain ⟨n, ⟨h1, h2, h3, h4, h5⟩, ht⟩ := h
  refine ⟨n, ⟨by rw [q_up_ne _ _ (by omega)]; exact h1, q_up_self _ _ _ _, h3, by rw [q_up_a _ _ (by omega)]; exact h4, ?_⟩, by rw [q_up_a _ _ (by omega)]; exact ht⟩
  rw [q_up_a _ _ (by omega), h5]
  rcases hf with rfl | rfl <;> omega
theorem ad_same {f x y : Int} (hf : f = 1 ∨ f = -1) (h : x.sign = (f * y).sign) : x + f * y = x.sign * (x.natAbs + y.natAbs) := by
  have h1 := sg3 x
  have h2 := sg3 (f * y)
  rcases hf with rfl | rfl <;> rcases h1 with h1 | h1 | h1 <;> rw [h1.2] <;> omega
theorem ad_zero {f x y : Int} (hf : f = 1 ∨ f = -1) (hx : ¬ x.sign = 0) (hy : ¬ (f * y).sign = 0) (h : ¬ x.sign = (f * y).sign) (hc : ((x.natAbs : Int) - y.natAbs).sign = 0) : x + f * y = 0 := by
  have h1 := sg3 x
  have h2 := sg3 (f * y)
  have h3 := sg3 ((x.natAbs : Int) - y.natAbs)
  rcases hf with rfl | rfl <;> omega
theorem ad_diff {f x y : Int} (hf : f = 1 ∨ f = -1) (hx : ¬ x.sign = 0) (hy : ¬ (f * y).sign = 0) (h : ¬ x.sign = (f * y).sign) (hc : ¬ ((x.natAbs : Int) - y.natAbs).sign = 0) : x + f * y = (if 0 < ((x.natAbs : Int) - y.natAbs).sign then x.sign else (f * y).sign) * (if 0 < ((x.natAbs : Int) - y.natAbs).sign then (x.natAbs : Int) - y.natAbs else y.natAbs - x.natAbs) := by
  have h1 := sg3 x
  have h2 := sg3 (f * y)
  have h3 := sg3 ((x.natAbs : Int) - y.natAbs)
  split
  · rcases hf with rfl | rfl <;> rcases h1 with h1 | h1 | h1 <;> rw [h1.2] <;> omega
  · rcases hf with rfl | rfl <;> rcases h2 with h2 | h2 | h2 <;> rw [h2.2] <;> omega
set_option maxHeartbeats 4000000 in
set_option maxRecDepth 100000 in
theorem c_Nu_add (l : Launch) (K : pw_K) {L : q_L} {σ : q_S} {a b wa wb : Nat} {x y f : Int} (hLa : nL L a wa) (hLb : nL L b wb) (hd : a + 1 < b ∨ b + 1 < a) (ha : nV σ a wa x) (hb : nV σ b wb y) (hf : f = 1 ∨ f = -1) (hx : (x.natAbs : Int) < 2147483648 ^ (wa - 1)) (hy : (y.natAbs : Int) < 2147483648 ^ (wa - 1)) : q_C l K L y_Nu_add b_Nu_add 5 none 2 [.ref a, .ref b, vi f] σ (fun v σ' => v = none ∧ nV σ' a wa (x + f * y) ∧ ∀ q, q ≠ a → q ≠ a + 1 → σ' q = σ q) := by
  have h2 : σ a 2 = x.sign := by obtain ⟨n, hu, -⟩ := ha; exact hu.2.1
  have g2 : σ b 2 = y.sign := by obtain ⟨n, hu, -⟩ := hb; exact hu.2.1
  refine q_start [some (.ref a), some (.ref b), some (vi f), none, none] (by decide) (Nat.le_of_ble_eq_true rfl) (fun q h => h) ?_
  refine q_aload_n d_Nu_add_0 rfl ?_
  refine q_gi hLb.1.1 pc_Nu 2 (by decide) w_fl_Nu_17 rfl (by rfl) d_Nu_add_1 ?_
  refine q_iload_n d_Nu_add_4 rfl ?_
  refine q_imul d_Nu_add_5 ?_
  refine q_topi (show σ b 2 * f = (f * y).sign by rw [g2]; exact sg_mul hf y) ?_
  refine q_ist_n_3 d_Nu_add_6 (by decide) rfl ?_
  refine q_iload_n d_Nu_add_7 rfl ?_
  refine q_if_ne (tgt := 12) (by have := sg3 (f * y); omega) d_Nu_add_8 (by decide) (fun c0 => ?_) (fun c0 => ?_)
  · refine q_aload_n d_Nu_add_12 rfl ?_
    refine q_gi hLa.1.1 pc_Nu 2 (by decide) w_fl_Nu_17 rfl (by rfl) d_Nu_add_13 ?_
    refine q_topi h2 ?_
    refine q_if_ne (tgt := 43) (by have := sg3 x; omega) d_Nu_add_16 (by decide) (fun cx => ?_) (fun cx => ?_)
    · refine q_aload_n d_Nu_add_43 rfl ?_
      refine q_gi hLa.1.1 pc_Nu 2 (by decide) w_fl_Nu_17 rfl (by rfl) d_Nu_add_44 ?_
      refine q_topi h2 ?_
      refine q_iload_n d_Nu_add_47 rfl ?_
      refine q_icmp_ne (tgt := 59) (by have := sg3 x; omega) (by have := sg3 (f * y); omega) d_Nu_add_48 (by decide) (fun ce => ?_) (fun ce => ?_)
      · refine q_aload_n d_Nu_add_59 rfl ?_
        refine q_aload_n d_Nu_add_60 rfl ?_
        refine q_callV (As := [.ref b]) (c_Nu_compareMagnitude l K hLa hLb ha hb) w_cd_Nu_compareMagnitude w_ini_Nu w_ml_Nu_40 w_im_Nu_compareMagnitude w_se_Nu_compareMagnitude hLa.1.1 rfl hd_Nu_compareMagnitude rfl (Nat.le_of_ble_eq_true rfl) d_Nu_add_61 (by decide) (by decide) (fun v σ1 hp => ?_)
        obtain ⟨rfl, rfl⟩ := hp
        refine q_ist_4 d_Nu_add_64 (by decide) rfl ?_
        refine q_iload d_Nu_add_66 rfl ?_
        refine q_if_ne (tgt := 78) (by have := sg3 ((x.natAbs : Int) - y.natAbs); omega) d_Nu_add_68 (by decide) (fun cc => ?_) (fun cc => ?_)
        · refine q_aload_n d_Nu_add_78 rfl ?_
          refine q_iload d_Nu_add_79 rfl ?_
          refine q_jn1 (V := if 0 < ((x.natAbs : Int) - y.natAbs).sign then x.sign else (f * y).sign) 92 (fun jn => ?_) ?_
          · refine q_if_le (tgt := 91) (by have := sg3 ((x.natAbs : Int) - y.natAbs); omega) d_Nu_add_81 (by decide) (fun cg => ?_) (fun cg => ?_)
            · refine q_iload_n d_Nu_add_91 rfl ?_
              exact jn _ ((if_neg (by omega)).symm)
            · refine q_aload_n d_Nu_add_84 rfl ?_
              refine q_gi hLa.1.1 pc_Nu 2 (by decide) w_fl_Nu_17 rfl (by rfl) d_Nu_add_85 ?_
              refine q_goto (tgt := 92) d_Nu_add_88 (by decide) ?_
              exact jn _ (by rw [h2]; exact (if_pos (by omega)).symm)
          · refine q_pi hLa.1.1 pc_Nu 2 (by decide) w_fl_Nu_17 rfl rfl rfl rfl (by rfl) d_Nu_add_92 ?_
            obtain ⟨n, hu, ht⟩ := ha
            have hU : nU (q_up σ1 a 2 (if 0 < ((x.natAbs : Int) - y.natAbs).sign then x.sign else (f * y).sign)) a wa n x.natAbs (if 0 < ((x.natAbs : Int) - y.natAbs).sign then x.sign else (f * y).sign) := ⟨by rw [q_up_ne _ _ (by omega)]; exact hu.1, q_up_self _ _ _ _, hu.2.2.1, by rw [q_up_a _ _ (by omega)]; exact hu.2.2.2.1, by rw [q_up_a _ _ (by omega)]; exact hu.2.2.2.2⟩
            have hs1 : (if 0 < ((x.natAbs : Int) - y.natAbs).sign then x.sign else (f * y).sign) = 1 ∨ (if 0 < ((x.natAbs : Int) - y.natAbs).sign then x.sign else (f * y).sign) = -1 := by have := sg3 x; have := sg3 (f * y); split <;> omega
            refine q_aload_n d_Nu_add_95 rfl ?_
            refine q_aload_n d_Nu_add_96 rfl ?_
            refine q_iload d_Nu_add_97 rfl ?_
            refine q_callV (As := [.ref b, vi ((x.natAbs : Int) - y.natAbs).sign]) (c_Nu_subtractMagnitude l K (cmp := ((x.natAbs : Int) - y.natAbs).sign) hLa hLb hd hU (hb.mv (q_up_a _ _ (by omega)) (q_up_a _ _ (by omega))) hs1 (by have := sg3 ((x.natAbs : Int) - y.natAbs); omega) (by have := sg3 ((x.natAbs : Int) - y.natAbs); omega) (by have := ip_le (B := 2147483648) (by decide) (show wa - 1 ≤ wa by omega); omega)) w_cd_Nu_subtractMagnitude w_ini_Nu w_ml_Nu_54 w_im_Nu_subtractMagnitude w_se_Nu_subtractMagnitude hLa.1.1 rfl hd_Nu_subtractMagnitude rfl (Nat.le_of_ble_eq_true rfl) d_Nu_add_99 (by decide) (by decide) (fun v σ3 hp => ?_)
            obtain ⟨rfl, k1, k2⟩ := hp
            exact q_vret rfl (⟨rfl, by rw [ad_diff hf cx c0 ce cc]; exact k1, fun q h6 h7 => by rw [k2 q h6 h7, q_up_a _ _ h6]⟩) d_Nu_add_102
        · refine q_aload_n d_Nu_add_71 rfl ?_
          refine q_callV (As := []) (c_Nu_clear l K hLa σ1) w_cd_Nu_clear w_ini_Nu w_ml_Nu_51 w_im_Nu_clear w_se_Nu_clear hLa.1.1 rfl hd_Nu_clear rfl (Nat.le_of_ble_eq_true rfl) d_Nu_add_72 (by decide) (by decide) (fun v σ2 hp => ?_)
          obtain ⟨rfl, rfl⟩ := hp
          refine q_goto (tgt := 102) d_Nu_add_75 (by decide) ?_
          exact q_vret rfl (⟨rfl, by rw [ad_zero hf cx c0 ce cc]; exact nV_clear _ _ _, fun q h6 h7 => q_fr2 h6⟩) d_Nu_add_102
      · refine q_aload_n d_Nu_add_51 rfl ?_
        refine q_aload_n d_Nu_add_52 rfl ?_
        refine q_callV (As := [.ref b]) (c_Nu_addMagnitude l K hLa hLb hd ha hb (fun h => cx (by rw [h]; rfl)) hx hy) w_cd_Nu_addMagnitude w_ini_Nu w_ml_Nu_48 w_im_Nu_addMagnitude w_se_Nu_addMagnitude hLa.1.1 rfl hd_Nu_addMagnitude rfl (Nat.le_of_ble_eq_true rfl) d_Nu_add_53 (by decide) (by decide) (fun v σ1 hp => ?_)
        obtain ⟨rfl, k1, k2⟩ := hp
        refine q_goto (tgt := 102) d_Nu_add_56 (by decide) ?_
        exact q_vret rfl (⟨rfl, by rw [ad_same hf ce]; exact k1, k2⟩) d_Nu_add_102
    · refine q_aload_n d_Nu_add_19 rfl ?_
      refine q_aload_n d_Nu_add_20 rfl ?_
      refine q_callV (As := [.ref b]) (c_Nu_copy l K hLa hLb hd hb (by have := ip_le (B := 2147483648) (by decide) (show wa - 1 ≤ wa by omega); omega)) w_cd_Nu_copy w_ini_Nu w_ml_Nu_44 w_im_Nu_copy w_se_Nu_copy hLa.1.1 rfl hd_Nu_copy rfl (Nat.le_of_ble_eq_true rfl) d_Nu_add_21 (by decide) (by decide) (fun v σ1 hp => ?_)
      obtain ⟨rfl, k1, k2⟩ := hp
      refine q_aload_n d_Nu_add_24 rfl ?_
      refine q_aload_n d_Nu_add_25 rfl ?_
      refine q_gi hLa.1.1 pc_Nu 1 (by decide) w_fl_Nu_13 rfl (by rfl) d_Nu_add_26 ?_
      obtain ⟨n1, u1, u2⟩ := k1
      refine q_if_ne (tgt := 36) (by have := u1.1; have := u1.2.2.1; have := hLa.2; omega) d_Nu_add_29 (by decide) (fun cl => ?_) (fun cl => absurd cl (fun hh => c0 (fy1 hf (by have := (u1.zero u2).mp (by have := u1.1; omega); omega))))
      refine q_iload_n d_Nu_add_36 rfl ?_
      refine q_pi hLa.1.1 pc_Nu 2 (by decide) w_fl_Nu_17 rfl rfl rfl rfl (by rfl) d_Nu_add_37 ?_
      refine q_goto (tgt := 102) d_Nu_add_40 (by decide) ?_
      exact q_vret rfl (⟨rfl, by rw [show x = 0 from sg0 cx, Int.zero_add]; exact nV_sg ⟨n1, u1, u2⟩ hf, fun q h6 h7 => by rw [q_up_a _ _ h6]; exact k2 q h6 h7⟩) d_Nu_add_102
  · exact q_vret rfl (⟨rfl, by rw [fy0 hf c0, Int.add_zero]; exact ha, fun q _ _ => rfl⟩) d_Nu_add_11
