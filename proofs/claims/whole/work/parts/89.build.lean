/-! CHAIN: build -/
theorem chO_d : ∀ k, k < 10 → ∀ j, j < 10 → 1 ≤ k → k < j → (k - 1) * (22 - k) + 2 + 2 * (10 - k) ≤ (j - 1) * (22 - j) := by decide
theorem chO_e : ∀ k, k < 10 → 1 ≤ k → (k - 1) * (22 - k) + 2 + 2 * (10 - k) ≤ 108 := by decide
/-- a link's place lies before the next one's -/
theorem chO_lt {h k j : Nat} (hkj : k < j) (hj : j < 10) : chO h k + 2 + 2 * chN h k ≤ chO h j := by
  unfold chO chN
  rw [if_neg (show ¬ j = 0 by omega)]
  by_cases h0 : k = 0
  · rw [if_pos h0, if_pos h0]; omega
  · rw [if_neg h0, if_neg h0]
    have := chO_d k (by omega) j hj (by omega) hkj
    omega
theorem chO_end {h k : Nat} (hk : k < 10) : chO h k + 2 + 2 * chN h k ≤ 112 + 2 * h := by
  unfold chO chN
  by_cases h0 : k = 0
  · rw [if_pos h0, if_pos h0]; omega
  · rw [if_neg h0, if_neg h0]
    have := chO_e k hk (by omega)
    omega
theorem chN_1 (h i : Nat) : chN h (i + 1) = 9 - i := by unfold chN; rw [if_neg (by omega)]; omega
theorem top_ne {P : Nat → Int} : ∀ {n : Nat}, 0 < top P n → P (top P n - 1) ≠ 0
  | 0, h => by simp [top] at h
  | n + 1, h => by
    rw [top] at h ⊢
    by_cases e : P n = 0
    · rw [if_pos e] at h ⊢; exact top_ne h
    · rw [if_neg e]; exact e
theorem chO_ge {h k : Nat} : 2 ≤ chO h k := by
  unfold chO
  by_cases h0 : k = 0
  · rw [if_pos h0]; omega
  · rw [if_neg h0]; omega
set_option maxHeartbeats 4000000 in
set_option maxRecDepth 100000 in
theorem c_Ch_build (l : Launch) (K : pw_K) {L : q_L} {σ : q_S} {ch B h f g n m : Nat} {F0 F1 : Nat → Int} (hL : chL L ch h) (hbL : beL L B) (hdj : ch + 112 + 2 * h ≤ B ∨ B + 91 ≤ ch) (hn : n < h) (hm : m < 9) (hmn : m ≤ n) (hh : h ≤ 16) (hd0 : σ (ch + chO h 0) 1 = n) (hd1 : σ (ch + chO h 1) 1 = m) (hF0 : ∀ k, k ≤ n → nV σ (ch + chO h 0 + 2 + 2 * k) 48 (F0 k)) (hF1 : ∀ k, k ≤ m → nV σ (ch + chO h 1 + 2 + 2 * k) 48 (F1 k)) (z0 : ∀ c, n < c → F0 c = 0) (z1 : ∀ c, m < c → F1 c = 0) (n0 : F0 n ≠ 0) (n1 : F1 m ≠ 0) (b0 : l1 F0 (n + 1) ≤ 2 ^ f) (b1 : l1 F1 (m + 1) ≤ 2 ^ g) (ok : okc f g n m) : q_C l K L y_Ch_build b_Ch_build 5 none 5 [.ref ch, .ref B] σ (fun r σ' => r = none ∧ ∃ (M : Nat) (F : Nat → Nat → Int) (d : Nat → Nat), F 0 = F0 ∧ F 1 = F1 ∧ d 0 = n ∧ d 1 = m ∧ 1 ≤ M ∧ M ≤ 9 ∧ chs F d f g M ∧ σ' ch 1 = (M : Int) + 1 ∧ (∀ k, k ≤ M → σ' (ch + chO h k) 1 = (d k : Int) ∧ ∀ c, c ≤ d k → nV σ' (ch + chO h k + 2 + 2 * c) 48 (F k c)) ∧ ∀ q, (q < ch ∨ (ch < q ∧ q < ch + chO h 2) ∨ ch + 112 + 2 * h ≤ q) → (q ≤ B + 4 ∨ (B + 7 ≤ q ∧ q ≤ B + 8) ∨ (B + 13 ≤ q ∧ q ≤ B + 16) ∨ (B + 25 ≤ q ∧ q ≤ B + 28) ∨ (B + 35 ≤ q ∧ q ≤ B + 36) ∨ B + 71 ≤ q) → σ' q = σ q) := by
  obtain ⟨hc0, ⟨gg, hg1, hg2⟩, hpl⟩ := hL
  have hb0 := hbL.1
  have hSc : nL L (B + 17) 160 := hbL.2.1 8 (by decide)
  have hHt : nL L (B + 19) 160 := hbL.2.1 9 (by decide)
  have hR : pL L (B + 37) 16 160 := hbL.2.2.2.2.1
  refine q_start [some (.ref ch), some (.ref B), none, none, none] (by decide) (Nat.le_of_ble_eq_true rfl) (fun q h => h) ?_
  have loop : ∀ (r i : Nat), i + r = 9 → 1 ≤ i → ∀ (F : Nat → Nat → Int) (d : Nat → Nat) (sc ht : Nat) (σ1 : q_S), F 0 = F0 → F 1 = F1 → d 0 = n → d 1 = m → cin F d f g i sc ht → σ1 ch 1 = (i : Int) + 1 → (∀ k, k ≤ i → σ1 (ch + chO h k) 1 = (d k : Int) ∧ ∀ c, c ≤ d k → nV σ1 (ch + chO h k + 2 + 2 * c) 48 (F k c)) → nV σ1 (B + 17) 160 (sc : Int) → nV σ1 (B + 19) 160 (ht : Int) → (∀ q, (q < ch ∨ (ch < q ∧ q < ch + chO h 2) ∨ ch + 112 + 2 * h ≤ q) → (q ≤ B + 4 ∨ (B + 7 ≤ q ∧ q ≤ B + 8) ∨ (B + 13 ≤ q ∧ q ≤ B + 16) ∨ (B + 25 ≤ q ∧ q ≤ B + 28) ∨ (B + 35 ≤ q ∧ q ≤ B + 36) ∨ B + 71 ≤ q) → σ1 q = σ q) → q_T l K L R_Ch b_Ch_build 5 none 5 (fun r σ' => r = none ∧ ∃ (M : Nat) (F : Nat → Nat → Int) (d : Nat → Nat), F 0 = F0 ∧ F 1 = F1 ∧ d 0 = n ∧ d 1 = m ∧ 1 ≤ M ∧ M ≤ 9 ∧ chs F d f g M ∧ σ' ch 1 = (M : Int) + 1 ∧ (∀ k, k ≤ M → σ' (ch + chO h k) 1 = (d k : Int) ∧ ∀ c, c ≤ d k → nV σ' (ch + chO h k + 2 + 2 * c) 48 (F k c)) ∧ ∀ q, (q < ch ∨ (ch < q ∧ q < ch + chO h 2) ∨ ch + 112 + 2 * h ≤ q) → (q ≤ B + 4 ∨ (B + 7 ≤ q ∧ q ≤ B + 8) ∨ (B + 13 ≤ q ∧ q ≤ B + 16) ∨ (B + 25 ≤ q ∧ q ≤ B + 28) ∨ (B + 35 ≤ q ∧ q ≤ B + 36) ∨ B + 71 ≤ q) → σ' q = σ q) 37 [some (.ref ch), some (.ref B), none, none, none] [] σ1 := by
    intro r
    induction r with
    | zero =>
      intro i hi hi1 F d sc ht σ1 e0 e1 e2 e3 f1 f3 f4 f5 f6 f7
      refine q_aload_n d_Ch_build_37 rfl ?_
      refine q_gi hc0 pc_Ch 1 (by decide) w_fl_Ch_18 rfl (by rfl) d_Ch_build_38 ?_
      refine q_topi f3 ?_
      refine q_iconst d_Ch_build_41 rfl ?_
      refine q_icmp_le (tgt := 198) (by omega) (by omega) d_Ch_build_42 (by decide) (fun c42 => absurd c42 (by omega)) (fun c42 => ?_)
      refine q_aload_n d_Ch_build_45 rfl ?_
      refine q_gi hc0 pc_Ch 1 (by decide) w_fl_Ch_18 rfl (by rfl) d_Ch_build_46 ?_
      refine q_topi f3 ?_
      refine q_bipush d_Ch_build_49 (by decide) ?_
      refine q_icmp_ge (tgt := 198) (by omega) (by omega) d_Ch_build_51 (by decide) (fun c51 => ?_) (fun c51 => absurd c51 (by omega))
      exact q_vret rfl (⟨rfl, i, F, d, e0, e1, e2, e3, hi1, by omega, ⟨sc, ht, f1, Or.inl (by have := cin_deg f1 i hi1 (Nat.le_refl _); omega)⟩, f3, f4, f7⟩) d_Ch_build_198
    | succ r ih =>
      intro i hi hi1 F d sc ht σ1 e0 e1 e2 e3 f1 f3 f4 f5 f6 f7
      obtain ⟨vg, hvg, hvg2⟩ := (hpl i (by omega)).2.1
      have hdeg := cin_deg f1 i hi1 (Nat.le_refl _)
      refine q_aload_n d_Ch_build_37 rfl ?_
      refine q_gi hc0 pc_Ch 1 (by decide) w_fl_Ch_18 rfl (by rfl) d_Ch_build_38 ?_
      refine q_topi f3 ?_
      refine q_iconst d_Ch_build_41 rfl ?_
      refine q_icmp_le (tgt := 198) (by omega) (by omega) d_Ch_build_42 (by decide) (fun c42 => absurd c42 (by omega)) (fun c42 => ?_)
      refine q_aload_n d_Ch_build_45 rfl ?_
      refine q_gi hc0 pc_Ch 1 (by decide) w_fl_Ch_18 rfl (by rfl) d_Ch_build_46 ?_
      refine q_topi f3 ?_
      refine q_bipush d_Ch_build_49 (by decide) ?_
      refine q_icmp_ge (tgt := 198) (by omega) (by omega) d_Ch_build_51 (by decide) (fun c51 => absurd c51 (by omega)) (fun c51 => ?_)
      refine q_aload_n d_Ch_build_54 rfl ?_
      refine q_gr hc0 pc_Ch 0 (by decide) w_fl_Ch_11 rfl (by rfl) d_Ch_build_55 ?_
      refine q_aload_n d_Ch_build_58 rfl ?_
      refine q_gi hc0 pc_Ch 1 (by decide) w_fl_Ch_18 rfl (by rfl) d_Ch_build_59 ?_
      refine q_topi f3 ?_
      refine q_iconst d_Ch_build_62 rfl ?_
      refine q_isub d_Ch_build_63 ?_
      refine q_topi (show (i : Int) + 1 - 1 = ((i : Nat) : Int) by omega) ?_
      refine q_aal (i) 5 (b := ch + chO h (i)) rfl hg1 (by omega) (by omega) (by omega) (hg2 _ (by omega)) d_Ch_build_64 ?_
      refine q_gi (hpl i (by omega)).1 pc_Py 1 (by decide) w_fl_Ch_35 rfl (by rfl) d_Ch_build_65 ?_
      refine q_topi (f4 i (Nat.le_refl _)).1 ?_
      refine q_if_le (tgt := 198) (by omega) d_Ch_build_68 (by decide) (fun cd => ?_) (fun cd => ?_)
      · exact q_vret rfl (⟨rfl, i, F, d, e0, e1, e2, e3, hi1, by omega, ⟨sc, ht, f1, Or.inl (by omega)⟩, f3, f4, f7⟩) d_Ch_build_198
      · have hdi : 1 ≤ d i := by omega
        obtain ⟨hba, hba2⟩ := cin_ba f1 hi1
        obtain ⟨z, vw, pz, hz, mz, sz, x1, x2, x3, x4, x5, x6, x7, x8, x9, x10, x11⟩ := cin_fit f1 hi1 hdi (by rw [e2, e3]; exact ok)
        have hex := cin_exact f1 hi1 hdi
        have hcn := @cin_next F d f g i sc ht
        have hl := (f1.1 i (Nat.le_refl _)).2
        have hd0n : d (i - 1) ≤ n := by
          by_cases e : i = 1
          · rw [e, show 1 - 1 = 0 from rfl, e2]; exact Nat.le_refl _
          · have := hba2 (by omega); omega
        have hsc := f1.2.2.2.2.2.1
        have hht := f1.2.2.2.2.2.2.1
        have hdk : ∀ k, k ≤ i → d k < chN h k := fun k hk => by
          unfold chN
          by_cases e : k = 0
          · rw [if_pos e, e, e2]; exact hn
          · rw [if_neg e]; have := cin_deg f1 k (by omega) hk; omega
        have hN1 := hdk (i - 1) (by omega)
        have hNi := hdk i (Nat.le_refl _)
        have hz0 := lw_zero (f1.1 (i - 1) (by omega)).1 (f1.1 i (Nat.le_refl _)).1 hba (d (i - 1) - d i + 1) (Nat.le_refl _)
        have hpw := f1.2.2.2.2.2.2.2.2.1
        have ee1 := chO_end (h := h) (k := i - 1) (by omega)
        have ee2 := chO_end (h := h) (k := i) (by omega)
        have ee3 := chO_end (h := h) (k := i + 1) (by omega)
        have eg1 := chO_ge (h := h) (k := i - 1)
        have eg2 := chO_ge (h := h) (k := i)
        have el3 := chO_lt (h := h) (k := i) (j := i + 1) (by omega) (by omega)
        have el2 : chO h 2 ≤ chO h (i + 1) := by
          by_cases e : i = 1
          · rw [e]; exact Nat.le_refl _
          · have := chO_lt (h := h) (k := 2) (j := i + 1) (by omega) (by omega); omega
        refine q_aload_n d_Ch_build_71 rfl ?_
        refine q_gr hc0 pc_Ch 0 (by decide) w_fl_Ch_11 rfl (by rfl) d_Ch_build_72 ?_
        refine q_aload_n d_Ch_build_75 rfl ?_
        refine q_gi hc0 pc_Ch 1 (by decide) w_fl_Ch_18 rfl (by rfl) d_Ch_build_76 ?_
        refine q_topi f3 ?_
        refine q_iconst d_Ch_build_79 rfl ?_
        refine q_isub d_Ch_build_80 ?_
        refine q_topi (show (i : Int) + 1 - 2 = ((i - 1 : Nat) : Int) by omega) ?_
        refine q_aal (i - 1) 5 (b := ch + chO h (i - 1)) rfl hg1 (by omega) (by omega) (by omega) (hg2 _ (by omega)) d_Ch_build_81 ?_
        refine q_ast_n_2 d_Ch_build_82 (by decide) rfl ?_
        refine q_aload_n d_Ch_build_83 rfl ?_
        refine q_gr hc0 pc_Ch 0 (by decide) w_fl_Ch_11 rfl (by rfl) d_Ch_build_84 ?_
        refine q_aload_n d_Ch_build_87 rfl ?_
        refine q_gi hc0 pc_Ch 1 (by decide) w_fl_Ch_18 rfl (by rfl) d_Ch_build_88 ?_
        refine q_topi f3 ?_
        refine q_iconst d_Ch_build_91 rfl ?_
        refine q_isub d_Ch_build_92 ?_
        refine q_topi (show (i : Int) + 1 - 1 = ((i : Nat) : Int) by omega) ?_
        refine q_aal (i) 5 (b := ch + chO h (i)) rfl hg1 (by omega) (by omega) (by omega) (hg2 _ (by omega)) d_Ch_build_93 ?_
        refine q_ast_n_3 d_Ch_build_94 (by decide) rfl ?_
        refine q_aload_n d_Ch_build_95 rfl ?_
        refine q_gi (hpl (i - 1) (by omega)).1 pc_Py 1 (by decide) w_fl_Ch_35 rfl (by rfl) d_Ch_build_96 ?_
        refine q_topi (f4 (i - 1) (by omega)).1 ?_
        refine q_aload_n d_Ch_build_99 rfl ?_
        refine q_gi (hpl i (by omega)).1 pc_Py 1 (by decide) w_fl_Ch_35 rfl (by rfl) d_Ch_build_100 ?_
        refine q_topi (f4 i (Nat.le_refl _)).1 ?_
        refine q_isub d_Ch_build_103 ?_
        refine q_topi (show _ = ((d (i - 1) - d i : Nat) : Int) by omega) ?_
        refine q_ist_4 d_Ch_build_104 (by decide) rfl ?_
        refine q_aload_n d_Ch_build_106 rfl ?_
        refine q_aload_n d_Ch_build_107 rfl ?_
        refine q_aload_n d_Ch_build_108 rfl ?_
        refine q_aload_n d_Ch_build_109 rfl ?_
        refine q_callV (As := [.ref (ch + chO h (i - 1)), .ref (ch + chO h i), .ref B]) (c_Ch_leaveRest l K (ch := ch) (z := z) (vw := vw) (U := F (i - 1)) (V := F i) hbL (hpl (i - 1) (by omega)) (hpl i (by omega)) hN1 (by omega) hNi hba hdi (by omega) (by omega) (f4 (i - 1) (by omega)).1 (f4 i (Nat.le_refl _)).1 (fun k hk => (f4 (i - 1) (by omega)).2 k hk) (fun k hk => (f4 i (Nat.le_refl _)).2 k hk) hl (fun t ht k _ => x1 t ht k) (fun k _ => x2 k) (by omega)) w_cd_Ch_leaveRest w_ini_Ch w_ml_Ch_53 w_im_Ch_leaveRest w_se_Ch_leaveRest hc0 rfl hd_Ch_leaveRest rfl (Nat.le_of_ble_eq_true rfl) d_Ch_build_110 (by decide) (by decide) (fun v σ2 hp => ?_)
        obtain ⟨rfl, k1, k2, k3⟩ := hp
        have htl0 := top_le (lw (F (i - 1)) (F i) (d (i - 1)) (d i) (d (i - 1) - d i + 1)) (d i)
        have k3c : ∀ q, ch ≤ q → q < ch + 112 + 2 * h → σ2 q = σ1 q := fun q h1 h2 => k3 q (by omega) (by omega) (by omega) (by omega) (by omega) (by omega) (by omega)
        refine q_iload d_Ch_build_113 rfl ?_
        refine q_if_lt (tgt := 128) (by omega) d_Ch_build_115 (by decide) (fun c115 => absurd c115 (by omega)) (fun c115 => ?_)
        refine q_aload_n d_Ch_build_118 rfl ?_
        refine q_gr hb0 pc_Be 14 (by decide) w_fl_Ch_57 rfl (by rfl) d_Ch_build_119 ?_
        refine q_gi hR.1 pc_Py 1 (by decide) w_fl_Ch_35 rfl (by rfl) d_Ch_build_122 ?_
        refine q_topi k1 ?_
        refine q_if_ge (tgt := 129) (by omega) d_Ch_build_125 (by decide) (fun cr => ?_) (fun cr => ?_)
        · refine q_aload_n d_Ch_build_129 rfl ?_
          refine q_aload_n d_Ch_build_130 rfl ?_
          refine q_gr hc0 pc_Ch 0 (by decide) w_fl_Ch_11 rfl (by rfl) d_Ch_build_131 ?_
          refine q_aload_n d_Ch_build_134 rfl ?_
          refine q_gi hc0 pc_Ch 1 (by decide) w_fl_Ch_18 rfl (by rfl) d_Ch_build_135 ?_
          refine q_topi (show _ = ((i + 1 : Nat) : Int) by rw [k3c ch (by omega) (by omega), f3]; omega) ?_
          refine q_aal (i + 1) 5 (b := ch + chO h (i + 1)) rfl hg1 (by omega) (by omega) (by omega) (hg2 _ (by omega)) d_Ch_build_138 ?_
          refine q_iload d_Ch_build_139 rfl ?_
          refine q_aload_n d_Ch_build_141 rfl ?_
          obtain ⟨c, hc⟩ : ∃ c, top (lw (F (i - 1)) (F i) (d (i - 1)) (d i) (d (i - 1) - d i + 1)) (d i) = c + 1 := ⟨top (lw (F (i - 1)) (F i) (d (i - 1)) (d i) (d (i - 1) - d i + 1)) (d i) - 1, by omega⟩
          have htl := top_le (lw (F (i - 1)) (F i) (d (i - 1)) (d i) (d (i - 1) - d i + 1)) (d i)
          have htn := top_ne (P := lw (F (i - 1)) (F i) (d (i - 1)) (d i) (d (i - 1) - d i + 1)) (n := d i) (by omega)
          have htz := top_z (lw (F (i - 1)) (F i) (d (i - 1)) (d i) (d (i - 1) - d i + 1)) (d i)
          rw [hc] at k1 htl htn htz
          have hNn : c + 1 ≤ chN h (i + 1) := by unfold chN; rw [if_neg (by omega)]; omega
          refine q_callV (As := [.ref (ch + chO h (i + 1)), vi ((d (i - 1) - d i : Nat) : Int), .ref B]) (c_Ch_keepRest l K (ch := ch) (D := c + 1) (g := d (i - 1) - d i) (pz := pz) (hz := hz) (S := (sc : Int)) (H := (ht : Int)) (W := lw (F (i - 1)) (F i) (d (i - 1)) (d i) (d (i - 1) - d i + 1)) hbL (hpl (i + 1) (by omega)) hNn (by omega) (by omega) (by omega) (by omega) k1 (f5.mv (k3 _ (by omega) (by omega) (by omega) (by omega) (by omega) (by omega) (by omega)) (k3 _ (by omega) (by omega) (by omega) (by omega) (by omega) (by omega) (by omega))) (f6.mv (k3 _ (by omega) (by omega) (by omega) (by omega) (by omega) (by omega) (by omega)) (k3 _ (by omega) (by omega) (by omega) (by omega) (by omega) (by omega) (by omega))) (fun k hk => k2 k (by omega)) (Int.mul_ne_zero (by omega) (by have := ip_pos (B := (ht : Int)) (by omega) (d (i - 1) - d i); omega)) x4 x5 x6 (fun k _ => x11 k) (fun k _ => x7 k)) w_cd_Ch_keepRest w_ini_Ch w_ml_Ch_61 w_im_Ch_keepRest w_se_Ch_keepRest hc0 rfl hd_Ch_keepRest rfl (Nat.le_of_ble_eq_true rfl) d_Ch_build_142 (by decide) (by decide) (fun v σ3 hp => ?_)
          obtain ⟨rfl, k4, k5, k6⟩ := hp
          have hNn2 := chN_1 h i
          have hcast : (sc : Int) * (ht : Int) ^ (d (i - 1) - d i) = ((sc * ht ^ (d (i - 1) - d i) : Nat) : Int) := by push_cast; rfl
          rw [hcast] at k4 k5
          have k6c : ∀ q, ch ≤ q → q < ch + chO h (i + 1) → σ3 q = σ1 q := fun q h1 h2 => by rw [k6 q (by omega) (by omega) (by omega)]; exact k3c q h1 (by omega)
          have k6l : ∀ k, k ≤ i → ∀ q, ch + chO h k ≤ q → q < ch + chO h k + 2 + 2 * chN h k → σ3 q = σ1 q := fun k hk q h1 h2 => k6c q (by omega) (by have := chO_lt (h := h) (k := k) (j := i + 1) (by omega) (by omega); omega)
          refine q_aload_n d_Ch_build_145 rfl ?_
          refine q_dup d_Ch_build_146 rfl ?_
          refine q_gi hc0 pc_Ch 1 (by decide) w_fl_Ch_18 rfl (by rfl) d_Ch_build_147 ?_
          refine q_topi (show _ = (i : Int) + 1 by rw [k6c ch (by omega) (by omega), f3]) ?_
          refine q_iconst d_Ch_build_150 rfl ?_
          refine q_iadd d_Ch_build_151 ?_
          refine q_pi hc0 pc_Ch 1 (by decide) w_fl_Ch_18 rfl rfl rfl rfl (by rfl) d_Ch_build_152 ?_
          refine q_aload_n d_Ch_build_155 rfl ?_
          refine q_gr hb0 pc_Be 8 (by decide) w_fl_Ch_38 rfl (by rfl) d_Ch_build_156 ?_
          refine q_aload_n d_Ch_build_159 rfl ?_
          refine q_gr (hpl i (by omega)).1 pc_Py 0 (by decide) w_fl_Ch_65 rfl (by rfl) d_Ch_build_160 ?_
          refine q_aload_n d_Ch_build_163 rfl ?_
          refine q_gi (hpl i (by omega)).1 pc_Py 1 (by decide) w_fl_Ch_35 rfl (by rfl) d_Ch_build_164 ?_
          refine q_topi (show _ = (d i : Int) by rw [q_up_a _ _ (by omega), k6l i (Nat.le_refl _) _ (by omega) (by omega)]; exact (f4 i (Nat.le_refl _)).1) ?_
          refine q_aal (d i) 4 (b := (ch + chO h i) + 2 + 2 * d i) rfl hvg (by omega) (by omega) (by omega) (hvg2 _ hNi) d_Ch_build_167 ?_
          refine q_callV (As := [.ref ((ch + chO h i) + 2 + 2 * d i)]) (c_Nu_copy l K hSc ((hpl i (by omega)).2.2.1 (d i) hNi) (by omega) (((f4 i (Nat.le_refl _)).2 (d i) (Nat.le_refl _)).mv (by rw [q_up_a _ _ (by omega), k6l i (Nat.le_refl _) _ (by omega) (by omega)]) (by rw [q_up_a _ _ (by omega), k6l i (Nat.le_refl _) _ (by omega) (by omega)])) (lim_up (x2 (d i)) (by omega))) w_cd_Nu_copy w_ini_Nu w_ml_Ch_69 w_im_Nu_copy w_se_Nu_copy hSc.1.1 rfl hd_Nu_copy rfl (Nat.le_of_ble_eq_true rfl) d_Ch_build_168 (by decide) (by decide) (fun v σ4 hp => ?_)
          obtain ⟨rfl, k7, k8⟩ := hp
          refine q_aload_n d_Ch_build_171 rfl ?_
          refine q_gr hb0 pc_Be 8 (by decide) w_fl_Ch_38 rfl (by rfl) d_Ch_build_172 ?_
          refine q_aload_n d_Ch_build_175 rfl ?_
          refine q_gr hb0 pc_Be 8 (by decide) w_fl_Ch_38 rfl (by rfl) d_Ch_build_176 ?_
          refine q_gi hSc.1.1 pc_Nu 2 (by decide) w_fl_Ch_72 rfl (by rfl) d_Ch_build_179 ?_
          refine q_topi k7.sgn ?_
          refine q_mabs (by have := sg3 (F i (d i)); omega) w_ml_Ch_75 d_Ch_build_182 (by decide) (Nat.le_of_ble_eq_true rfl) ?_
          refine q_pi hSc.1.1 pc_Nu 2 (by decide) w_fl_Ch_72 rfl rfl rfl rfl (by rfl) d_Ch_build_185 ?_
          have k9 := nV_abs k7
          refine q_aload_n d_Ch_build_188 rfl ?_
          refine q_iload d_Ch_build_189 rfl ?_
          refine q_aload_n d_Ch_build_191 rfl ?_
          refine q_callV (As := [vi ((d (i - 1) - d i : Nat) : Int), .ref B]) (c_Ch_raiseHeight l K (ch := ch) (g := d (i - 1) - d i) (mz := mz) (sz := sz) (S := ((F i (d i)).natAbs : Int)) (H := (ht : Int)) (M := fun k => (hk (F i (d i)).natAbs ht k : Int)) hbL (by omega) k9 (f6.mv (by rw [q_up_a _ _ (by omega), k8 _ (by omega) (by omega), q_up_a _ _ (by omega), k6 _ (by omega) (by omega) (by omega)]; exact k3 _ (by omega) (by omega) (by omega) (by omega) (by omega) (by omega) (by omega)) (by rw [q_up_a _ _ (by omega), k8 _ (by omega) (by omega), q_up_a _ _ (by omega), k6 _ (by omega) (by omega) (by omega)]; exact k3 _ (by omega) (by omega) (by omega) (by omega) (by omega) (by omega) (by omega))) (by omega) (by rw [hk_1]) (fun k a b => by have := hk_s a (by obtain ⟨M, h1, _⟩ := hpw k a (by omega); exact ⟨M, h1⟩) (by obtain ⟨M, h1, _⟩ := hpw (k + 1) (by omega) (by omega); rw [Nat.add_sub_cancel] at h1; exact ⟨M, h1⟩) hht; exact_mod_cast this) x8 x9 (lim_up x5 (by omega)) x10) w_cd_Ch_raiseHeight w_ini_Ch w_ml_Ch_79 w_im_Ch_raiseHeight w_se_Ch_raiseHeight hc0 rfl hd_Ch_raiseHeight rfl (Nat.le_of_ble_eq_true rfl) d_Ch_build_192 (by decide) (by decide) (fun v σ5 hp => ?_)
          obtain ⟨rfl, k10, k11⟩ := hp
          refine q_goto (tgt := 37) d_Ch_build_195 (by decide) ?_
          refine q_drop_4 ?_
          refine q_drop_3 ?_
          refine q_drop_2 ?_
          have k12 : ∀ q, q ≠ ch → (q < B + 17 ∨ B + 24 < q) → (q ≤ B + 28 ∨ B + 34 < q) → σ5 q = σ3 q := fun q h1 h2 h3 => by rw [k11 q (by omega) h3, q_up_a _ _ (by omega), k8 q (by omega) (by omega), q_up_a _ _ h1]
          have k13 : σ5 ch 1 = (i : Int) + 1 + 1 := by rw [k11 ch (by omega) (by omega), q_up_a _ _ (by omega), k8 ch (by omega) (by omega), q_up_self]
          have hwn : (fun e => -(((lw (F (i - 1)) (F i) (d (i - 1)) (d i) (d (i - 1) - d i + 1)) e).tdiv ((sc * ht ^ (d (i - 1) - d i) : Nat) : Int))) c ≠ 0 := by
            intro h0
            have h1 : ((lw (F (i - 1)) (F i) (d (i - 1)) (d i) (d (i - 1) - d i + 1)) c).tdiv ((sc * ht ^ (d (i - 1) - d i) : Nat) : Int) = 0 := by
              have : -(((lw (F (i - 1)) (F i) (d (i - 1)) (d i) (d (i - 1) - d i + 1)) c).tdiv ((sc * ht ^ (d (i - 1) - d i) : Nat) : Int)) = 0 := h0
              omega
            have h2 := (hex c).1
            rw [h1, Int.mul_zero] at h2
            exact htn (by rw [Nat.add_sub_cancel]; exact h2.symm)
          have hwz : ∀ e, c < e → (fun e => -(((lw (F (i - 1)) (F i) (d (i - 1)) (d i) (d (i - 1) - d i + 1)) e).tdiv ((sc * ht ^ (d (i - 1) - d i) : Nat) : Int))) e = 0 := fun e he => by
            have h1 : (lw (F (i - 1)) (F i) (d (i - 1)) (d i) (d (i - 1) - d i + 1)) e = 0 := by
              by_cases he2 : e < d i
              · exact htz e (by omega) he2
              · exact hz0 e (by omega)
            show -(((lw (F (i - 1)) (F i) (d (i - 1)) (d i) (d (i - 1) - d i + 1)) e).tdiv _) = 0
            rw [h1]; simp
          have k4' : σ3 (ch + chO h (i + 1)) 1 = (c : Int) := by
            rw [k4, top_full (by omega) (by rw [Nat.add_sub_cancel]; exact hwn)]; omega
          have m0 : ¬ (0 : Nat) = i + 1 := by omega
          have m1 : ¬ (1 : Nat) = i + 1 := by omega
          refine ih (i + 1) (by omega) (by omega) (fun k => if k = i + 1 then (fun e => -(((lw (F (i - 1)) (F i) (d (i - 1)) (d i) (d (i - 1) - d i + 1)) e).tdiv ((sc * ht ^ (d (i - 1) - d i) : Nat) : Int))) else F k) (fun k => if k = i + 1 then c else d k) (F i (d i)).natAbs (if d (i - 1) - d i = 0 then ht else hk (F i (d i)).natAbs ht (d (i - 1) - d i)) σ5 ((if_neg m0).trans e0) ((if_neg m1).trans e1) ((if_neg m0).trans e2) ((if_neg m1).trans e3) (hcn f1 hi1 hdi (fun e => rfl) hwn hwz) (by rw [k13]; omega) (fun k hk => ?_) (k9.mv (k11 _ (by omega) (by omega)) (k11 _ (by omega) (by omega))) ?_ (fun q h1 h2 => ?_)
          · by_cases ek : k = i + 1
            · simp only [if_pos ek]
              rw [ek]
              exact ⟨by rw [k12 _ (by omega) (by omega) (by omega)]; exact k4', fun e he => (k5 e (by omega)).mv (k12 _ (by omega) (by omega) (by omega)) (k12 _ (by omega) (by omega) (by omega))⟩
            · simp only [if_neg ek]
              have a1 := chO_end (h := h) (k := k) (by omega)
              have a2 := chO_ge (h := h) (k := k)
              have a3 := hdk k (by omega)
              exact ⟨by rw [k12 _ (by omega) (by omega) (by omega), k6l k (by omega) _ (by omega) (by omega)]; exact (f4 k (by omega)).1, fun e he => ((f4 k (by omega)).2 e he).mv (by rw [k12 _ (by omega) (by omega) (by omega), k6l k (by omega) _ (by omega) (by omega)]) (by rw [k12 _ (by omega) (by omega) (by omega), k6l k (by omega) _ (by omega) (by omega)])⟩
          · by_cases eg : d (i - 1) - d i = 0
            · rw [if_pos eg] at k10 ⊢; exact k10
            · rw [if_neg eg] at k10 ⊢; exact k10
          · rw [k12 q (by omega) (by omega) (by omega), k6 q (by omega) (by omega) (by omega), k3 q (by omega) (by omega) (by omega) (by omega) (by omega) (by omega) (by omega)]
            exact f7 q h1 h2
        · exact q_vret rfl (⟨rfl, i, F, d, e0, e1, e2, e3, hi1, by omega, ⟨sc, ht, f1, Or.inr (fun e => by by_cases he : e < d i; exact top_z _ (d i) e (by omega) he; exact hz0 e (by omega))⟩, by rw [k3c ch (by omega) (by omega)]; exact f3, fun k hk => ⟨by rw [k3c (ch + chO h k) (by omega) (by have := chO_end (h := h) (k := k) (by omega); omega)]; exact (f4 k hk).1, fun c hc => ((f4 k hk).2 c hc).mv (k3c _ (by omega) (by have := chO_end (h := h) (k := k) (by omega); have := hdk k hk; omega)) (k3c _ (by omega) (by have := chO_end (h := h) (k := k) (by omega); have := hdk k hk; omega))⟩, fun q h1 h2 => by rw [k3 q (by omega) (by omega) (by omega) (by omega) (by omega) (by omega) (by omega)]; exact f7 q h1 h2⟩) d_Ch_build_128
  refine q_aload_n d_Ch_build_0 rfl ?_
  refine q_aload_n d_Ch_build_1 rfl ?_
  refine q_gr hc0 pc_Ch 0 (by decide) w_fl_Ch_11 rfl (by rfl) d_Ch_build_2 ?_
  refine q_iconst d_Ch_build_5 rfl ?_
  refine q_aal (1) 5 (b := ch + chO h (1)) rfl hg1 (by omega) (by omega) (by omega) (hg2 _ (by omega)) d_Ch_build_6 ?_
  refine q_gi (hpl 1 (by omega)).1 pc_Py 1 (by decide) w_fl_Ch_35 rfl (by rfl) d_Ch_build_7 ?_
  refine q_topi hd1 ?_
  refine q_if_ge (tgt := 17) (by omega) d_Ch_build_10 (by decide) (fun c10 => ?_) (fun c10 => absurd c10 (by omega))
  refine q_iconst d_Ch_build_17 rfl ?_
  refine q_pi hc0 pc_Ch 1 (by decide) w_fl_Ch_18 rfl rfl rfl rfl (by rfl) d_Ch_build_18 ?_
  refine q_aload_n d_Ch_build_21 rfl ?_
  refine q_gr hb0 pc_Be 8 (by decide) w_fl_Ch_38 rfl (by rfl) d_Ch_build_22 ?_
  refine q_lconst (z := 1) d_Ch_build_25 (by decide) ?_
  refine q_callV (As := [vl 1]) (q_Nu_setLong l K _ hSc (by decide) (by omega)) w_cd_Nu_setLong w_ini_Nu w_ml_Ch_44 w_im_Nu_setLong w_se_Nu_setLong hSc.1.1 rfl hd_Nu_setLong rfl (Nat.le_of_ble_eq_true rfl) d_Ch_build_26 (by decide) (by decide) (fun v σ2 hp => ?_)
  obtain ⟨rfl, k1, k2⟩ := hp
  refine q_aload_n d_Ch_build_29 rfl ?_
  refine q_gr hb0 pc_Be 9 (by decide) w_fl_Ch_50 rfl (by rfl) d_Ch_build_30 ?_
  refine q_lconst (z := 1) d_Ch_build_33 (by decide) ?_
  refine q_callV (As := [vl 1]) (q_Nu_setLong l K _ hHt (by decide) (by omega)) w_cd_Nu_setLong w_ini_Nu w_ml_Ch_44 w_im_Nu_setLong w_se_Nu_setLong hHt.1.1 rfl hd_Nu_setLong rfl (Nat.le_of_ble_eq_true rfl) d_Ch_build_34 (by decide) (by decide) (fun v σ3 hp => ?_)
  obtain ⟨rfl, k3, k4⟩ := hp
  have c0 := chO_end (h := h) (k := 0) (by decide)
  have c1 := chO_end (h := h) (k := 1) (by decide)
  have c2 := chO_ge (h := h) (k := 0)
  have c3 := chO_ge (h := h) (k := 1)
  have w0 : chN h 0 = h := rfl
  have w1 : chN h 1 = 9 := rfl
  have k5 : ∀ q, q ≠ ch → (q < B + 17 ∨ B + 20 < q) → σ3 q = σ q := fun q h1 h2 => by rw [k4 q (by omega) (by omega), k2 q (by omega) (by omega), q_up_a _ _ h1]
  refine loop 8 1 rfl (Nat.le_refl _) (fun k => if k = 0 then F0 else F1) (fun k => if k = 0 then n else m) 1 1 σ3 rfl rfl rfl rfl (cin_0 z0 z1 n0 n1 hmn b0 b1) (by rw [k4 ch (by omega) (by omega), k2 ch (by omega) (by omega), q_up_self]; rfl) (fun k hk => ?_) (k1.mv (k4 _ (by omega) (by omega)) (k4 _ (by omega) (by omega))) k3 (fun q h1 h2 => k5 q (by omega) (by omega))
  by_cases ek : k = 0
  · subst ek
    exact ⟨by rw [k5 _ (by omega) (by omega)]; exact hd0, fun c hc => (hF0 c hc).mv (k5 _ (by omega) (by have : c ≤ n := hc; omega)) (k5 _ (by omega) (by have : c ≤ n := hc; omega))⟩
  · obtain rfl : k = 1 := by omega
    exact ⟨by rw [k5 _ (by omega) (by omega)]; exact hd1, fun c hc => (hF1 c hc).mv (k5 _ (by omega) (by have : c ≤ m := hc; omega)) (k5 _ (by omega) (by have : c ≤ m := hc; omega))⟩
