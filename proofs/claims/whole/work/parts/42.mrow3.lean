/-! THE REFERENCE'S ROWS: product, sum -/
set_option maxHeartbeats 4000000 in
set_option maxRecDepth 100000 in
theorem c_Mo_product (l : Launch) (K : pw_K) {L : q_L} {σ : q_S} {m r i j u v : Nat} {x y : Int} (hL : mL L m) (hr : r < 160) (hi : i < 160) (hj : j < 160) (hx : rV σ m i x) (hy : rV σ m j y) (hu : (x.natAbs : Int) < 65536 ^ u) (hv : (y.natAbs : Int) < 65536 ^ v) (huv : u + v ≤ 1024) : q_C l K L y_Mo_product b_Mo_product 11 none 2 [.ref m, vi r, vi i, vi j] σ (fun v σ' => v = none ∧ rV σ' m r (x * y) ∧ rO σ σ' m ∧ ∀ j, j ≠ r → rE σ σ' m j) := by
  obtain ⟨hM0, hM1, hM2, hM3, hM4, hM5, hM6, hM7, hM8, hM9⟩ := hL
  obtain ⟨n, hU, ht0⟩ := hx
  obtain ⟨n', hU', gt0⟩ := hy
  have hn := (hU.le ht0).mpr hu
  have hn' := (hU'.le gt0).mpr hv
  obtain ⟨h1, h2, h3, h4, h5⟩ := hU
  obtain ⟨g1, g2, g3, g4, g5⟩ := hU'
  refine q_start [some (.ref m), some (vi r), some (vi i), some (vi j), none, none, none, none, none, none, none] (by decide) (Nat.le_of_ble_eq_true rfl) (fun q h => h) ?_
  have outer : ∀ (d a : Nat), a + d = n → ∀ (σ1 : q_S), (∀ q, q ≠ m + 9 → σ1 q = σ q) → (∀ u, u < n + n' → 0 ≤ σ1 (m + 9) u ∧ σ1 (m + 9) u < 65536) → (∀ u, a + n' ≤ u → u < n + n' → σ1 (m + 9) u = 0) → dv 65536 (σ1 (m + 9)) (a + n') = dv 65536 (mr σ m i) a * dv 65536 (mr σ m j) n' → ∀ ta : Int, ta = a →  q_T l K L R_Mo b_Mo_product 11 none 2 (fun v σ' => v = none ∧ rV σ' m r (x * y) ∧ rO σ σ' m ∧ ∀ j, j ≠ r → rE σ σ' m j) 42 [some (.ref m), some (vi r), some (vi i), some (vi j), some (vi ((n : Int) + n')), some (vi ta), none, none, none, none, none] [] σ1 := by
    intro d
    induction d with
    | zero =>
      intro a hk σ1 o1 o2 o3 o4 ta hta
      refine q_iload d_Mo_product_42 rfl ?_
      refine q_aload_n d_Mo_product_44 rfl ?_
      refine q_gr (by assumption) pc_Mo 2 (by decide) w_fl_Mo_14 rfl (by rfl) d_Mo_product_45 ?_
      refine q_iload_n d_Mo_product_48 rfl ?_
      refine q_ial (i) (by assumption) (by omega) (by omega) (by omega) d_Mo_product_49 ?_
      refine q_topi (show _ = (n : Int) by rw [o1 (m + 2) (by omega)]; exact h1) ?_
      refine q_icmp_ge (tgt := 158) (by omega) (by omega) d_Mo_product_50 (by decide) (fun c50 => ?_) (fun c50 => absurd c50 (by omega))
      refine q_aload_n d_Mo_product_158 rfl ?_
      refine q_iload_n d_Mo_product_159 rfl ?_
      refine q_iload d_Mo_product_160 rfl ?_
      refine q_aload_n d_Mo_product_162 rfl ?_
      refine q_gr (by assumption) pc_Mo 3 (by decide) w_fl_Mo_17 rfl (by rfl) d_Mo_product_163 ?_
      refine q_iload_n d_Mo_product_166 rfl ?_
      refine q_ial (i) (by assumption) (by omega) (by omega) (by omega) d_Mo_product_167 ?_
      refine q_topi (show _ = x.sign by rw [o1 (m + 3) (by omega)]; exact h2) ?_
      refine q_aload_n d_Mo_product_168 rfl ?_
      refine q_gr (by assumption) pc_Mo 3 (by decide) w_fl_Mo_17 rfl (by rfl) d_Mo_product_169 ?_
      refine q_iload_n d_Mo_product_172 rfl ?_
      refine q_ial (j) (by assumption) (by omega) (by omega) (by omega) d_Mo_product_173 ?_
      refine q_topi (show _ = y.sign by rw [o1 (m + 3) (by omega)]; exact g2) ?_
      refine q_imul d_Mo_product_174 ?_
      refine q_topi (show _ = (x * y).sign by rw [Int.sign_mul]) ?_
      obtain rfl : a = n := by omega
      have hdv : dv 65536 (σ1 (m + 9)) (a + n') = (x * y).natAbs := by rw [o4, h5, g5, Int.natAbs_mul]; omega
      refine q_callV (As := [vi r, vi ((a : Int) + n'), vi (x * y).sign]) (c_Mo_takes l K (N := a + n') ⟨hM0, hM1, hM2, hM3, hM4, hM5, hM6, hM7, hM8, hM9⟩ hr (by omega) o2) w_cd_Mo_takes w_ini_Mo w_ml_Mo_53 w_im_Mo_takes w_se_Mo_takes (by assumption) rfl hd_Mo_takes rfl (Nat.le_of_ble_eq_true rfl) d_Mo_product_175 (by decide) (by decide) (fun v σ3 hp => ?_)
      obtain ⟨rfl, ⟨n3, k1, k2⟩, k3, k4, k5⟩ := hp
      exact q_vret rfl (⟨rfl, by rw [hdv] at k1; exact k1.val k2 rfl (fun _ => rfl), fun q h6 h7 h8 h9 => by rw [k3 q h6 h7 h8 h9, o1 q h9], fun u hu => rE.trans ⟨fun w _ => by show σ1 (m + 1) _ = σ (m + 1) _; rw [o1 _ (by omega)], by rw [o1 _ (by omega)], by rw [o1 _ (by omega)]⟩ (k5 u hu)⟩) d_Mo_product_178
    | succ d ihO =>
      intro a hk σ1 o1 o2 o3 o4 ta hta
      have ihO := ihO (a + 1) (by omega)
      have inner : ∀ (d b : Nat), b + d = n' → ∀ (σ2 : q_S) (c : Int), (∀ q, q ≠ m + 9 → σ2 q = σ q) → (∀ u, u < n + n' → 0 ≤ σ2 (m + 9) u ∧ σ2 (m + 9) u < 65536) → (∀ u, (u < a ∨ a + b ≤ u) → σ2 (m + 9) u = σ1 (m + 9) u) → dv 65536 (fun u => σ2 (m + 9) (a + u)) b + c * 65536 ^ b = dv 65536 (fun u => σ1 (m + 9) (a + u)) b + mr σ m i a * dv 65536 (mr σ m j) b → (0 ≤ c ∧ c < 65536) → ∀ tb : Int, tb = b →  q_T l K L R_Mo b_Mo_product 11 none 2 (fun v σ' => v = none ∧ rV σ' m r (x * y) ∧ rO σ σ' m ∧ ∀ j, j ≠ r → rE σ σ' m j) 59 [some (.ref m), some (vi r), some (vi i), some (vi j), some (vi ((n : Int) + n')), some (vi ta), some (vl c), none, some (vi tb), none, none] [] σ2 := by
        intro d
        induction d with
        | zero =>
          intro b hb σ2 c e1 e2 e3 e4 e5 tb htb
          refine q_iload d_Mo_product_59 rfl ?_
          refine q_aload_n d_Mo_product_61 rfl ?_
          refine q_gr (by assumption) pc_Mo 2 (by decide) w_fl_Mo_14 rfl (by rfl) d_Mo_product_62 ?_
          refine q_iload_n d_Mo_product_65 rfl ?_
          refine q_ial (j) (by assumption) (by omega) (by omega) (by omega) d_Mo_product_66 ?_
          refine q_topi (show _ = (n' : Int) by rw [e1 (m + 2) (by omega)]; exact g1) ?_
          refine q_icmp_ge (tgt := 135) (by omega) (by omega) d_Mo_product_67 (by decide) (fun c67 => ?_) (fun c67 => absurd c67 (by omega))
          refine q_aload_n d_Mo_product_135 rfl ?_
          refine q_gr (by assumption) pc_Mo 10 (by decide) w_fl_Mo_36 rfl (by rfl) d_Mo_product_136 ?_
          refine q_iload d_Mo_product_139 rfl ?_
          refine q_aload_n d_Mo_product_141 rfl ?_
          refine q_gr (by assumption) pc_Mo 2 (by decide) w_fl_Mo_14 rfl (by rfl) d_Mo_product_142 ?_
          refine q_iload_n d_Mo_product_145 rfl ?_
          refine q_ial (j) (by assumption) (by omega) (by omega) (by omega) d_Mo_product_146 ?_
          refine q_topi (show _ = (n' : Int) by rw [e1 (m + 2) (by omega)]; exact g1) ?_
          refine q_iadd d_Mo_product_147 ?_
          refine q_lload d_Mo_product_148 rfl ?_
          refine q_l2i d_Mo_product_150 ?_
          obtain rfl : b = n' := by omega
          refine q_ias (a + b) (by assumption) (by omega) (by omega) (by omega) d_Mo_product_151 ?_
          refine q_iinc_5 d_Mo_product_152 (by decide) rfl ?_
          refine q_goto (tgt := 42) d_Mo_product_155 (by decide) ?_
          refine q_drop_6 (q_drop_8 ?_)
          have hrow : ∀ u, u ≠ a + b → q_up σ2 (m + 9) (a + b) c (m + 9) u = σ2 (m + 9) u := fun u hu => q_up_k _ _ hu
          exact ihO _ (fun q hq => by rw [q_up_a _ _ hq]; exact e1 q hq) (fun u hu => if e : u = a + b then by subst e; rw [q_up_self]; omega else by rw [hrow u e]; exact e2 u hu) (fun u h6 h7 => by rw [hrow u (by omega), e3 u (by omega)]; exact o3 u (by omega) h7) (by
            rw [show a + 1 + b = a + (b + 1) by omega, dv_split, dv_congr (h := σ1 (m + 9)) (n := a) (fun u hu => by rw [hrow u (by omega)]; exact e3 u (by omega)), dv_s, dv_congr (h := fun u => σ2 (m + 9) (a + u)) (n := b) (fun u hu => hrow _ (by omega)), q_up_self, e4, dv_s, Int.add_mul, ← o4, dv_split 65536 (σ1 (m + 9)) a b]
            grind) _ (by omega)
        | succ d ih =>
          intro b hb σ2 c e1 e2 e3 e4 e5 tb htb
          refine q_iload d_Mo_product_59 rfl ?_
          refine q_aload_n d_Mo_product_61 rfl ?_
          refine q_gr (by assumption) pc_Mo 2 (by decide) w_fl_Mo_14 rfl (by rfl) d_Mo_product_62 ?_
          refine q_iload_n d_Mo_product_65 rfl ?_
          refine q_ial (j) (by assumption) (by omega) (by omega) (by omega) d_Mo_product_66 ?_
          refine q_topi (show _ = (n' : Int) by rw [e1 (m + 2) (by omega)]; exact g1) ?_
          refine q_icmp_ge (tgt := 135) (by omega) (by omega) d_Mo_product_67 (by decide) (fun c67 => absurd c67 (by omega)) (fun c67 => ?_)
          have r1 := h4 a (by omega)
          have r2 := g4 b (by omega)
          have r3 := e2 (a + b) (by omega)
          have r4 : 0 ≤ σ2 (m + 9) (a + b) + mr σ m i a * mr σ m j b + c ∧ σ2 (m + 9) (a + b) + mr σ m i a * mr σ m j b + c < 65536 * 65536 := by have := mul_carry (by decide) r1 r2 r3 e5; omega
          have r1 := h4 a (by omega)
          have r2 := g4 b (by omega)
          have r3 := e2 (a + b) (by omega)
          have r4 : 0 ≤ σ2 (m + 9) (a + b) + mr σ m i a * mr σ m j b + c ∧ σ2 (m + 9) (a + b) + mr σ m i a * mr σ m j b + c < 65536 * 65536 := by have := mul_carry (by decide) r1 r2 r3 e5; omega
          refine q_aload_n d_Mo_product_70 rfl ?_
          refine q_gr (by assumption) pc_Mo 10 (by decide) w_fl_Mo_36 rfl (by rfl) d_Mo_product_71 ?_
          refine q_iload d_Mo_product_74 rfl ?_
          refine q_iload d_Mo_product_76 rfl ?_
          refine q_iadd d_Mo_product_78 ?_
          refine q_ial (a + b) (by assumption) (by omega) (by omega) (by omega) d_Mo_product_79 ?_
          refine q_i2l (by omega) d_Mo_product_80 ?_
          refine q_aload_n d_Mo_product_81 rfl ?_
          refine q_iload_n d_Mo_product_82 rfl ?_
          refine q_iload d_Mo_product_83 rfl ?_
          refine q_callV (As := [vi i, vi ta]) (by rw [hta]; exact c_Mo_at l K (r := i) (n := n) a ⟨hM0, hM1, hM2, hM3, hM4, hM5, hM6, hM7, hM8, hM9⟩ (by omega) (by rw [e1 (m + 2) (by omega)]; exact h1) (by omega) (by omega)) w_cd_Mo_at w_ini_Mo w_ml_Mo_45 w_im_Mo_at w_se_Mo_at (by assumption) rfl hd_Mo_at rfl (Nat.le_of_ble_eq_true rfl) d_Mo_product_85 (by decide) (by decide) (fun v σ9 hp => ?_)
          obtain ⟨rfl, hσ⟩ := hp
          rw [hσ]
          clear hσ σ9
          refine q_topi (show _ = mr σ m i a from (if_pos (by omega)).trans (by show σ2 (m + 1) _ = σ (m + 1) _; rw [e1 (m + 1) (by omega)])) ?_
          refine q_i2l (by omega) d_Mo_product_88 ?_
          refine q_aload_n d_Mo_product_89 rfl ?_
          refine q_iload_n d_Mo_product_90 rfl ?_
          refine q_iload d_Mo_product_91 rfl ?_
          refine q_callV (As := [vi j, vi tb]) (by rw [htb]; exact c_Mo_at l K (r := j) (n := n') b ⟨hM0, hM1, hM2, hM3, hM4, hM5, hM6, hM7, hM8, hM9⟩ (by omega) (by rw [e1 (m + 2) (by omega)]; exact g1) (by omega) (by omega)) w_cd_Mo_at w_ini_Mo w_ml_Mo_45 w_im_Mo_at w_se_Mo_at (by assumption) rfl hd_Mo_at rfl (Nat.le_of_ble_eq_true rfl) d_Mo_product_93 (by decide) (by decide) (fun v σ9 hp => ?_)
          obtain ⟨rfl, hσ⟩ := hp
          rw [hσ]
          clear hσ σ9
          refine q_topi (show _ = mr σ m j b from (if_pos (by omega)).trans (by show σ2 (m + 1) _ = σ (m + 1) _; rw [e1 (m + 1) (by omega)])) ?_
          refine q_i2l (by omega) d_Mo_product_96 ?_
          refine q_lmul d_Mo_product_97 ?_
          refine q_ladd d_Mo_product_98 ?_
          refine q_lload d_Mo_product_99 rfl ?_
          refine q_ladd d_Mo_product_101 ?_
          refine q_lst_9 d_Mo_product_102 (by decide) rfl ?_
          refine q_aload_n d_Mo_product_104 rfl ?_
          refine q_gr (by assumption) pc_Mo 10 (by decide) w_fl_Mo_36 rfl (by rfl) d_Mo_product_105 ?_
          refine q_iload d_Mo_product_108 rfl ?_
          refine q_iload d_Mo_product_110 rfl ?_
          refine q_iadd d_Mo_product_112 ?_
          refine q_lload d_Mo_product_113 rfl ?_
          refine q_ldc2 (z := 65536) w_kl_Mo_43 (by decide) d_Mo_product_115 ?_
          refine q_lrem (by omega) (by omega) (by omega) d_Mo_product_118 ?_
          refine q_topl (show _ = (σ2 (m + 9) (a + b) + mr σ m i a * mr σ m j b + c) % 65536 from Int.tmod_eq_emod_of_nonneg r4.1) ?_
          refine q_l2i d_Mo_product_119 ?_
          refine q_ias (a + b) (by assumption) (by omega) (by omega) (by omega) d_Mo_product_120 ?_
          refine q_lload d_Mo_product_121 rfl ?_
          refine q_ldc2 (z := 65536) w_kl_Mo_43 (by decide) d_Mo_product_123 ?_
          refine q_ldiv (by omega) (by omega) (by omega) d_Mo_product_126 ?_
          refine q_topl (show _ = (σ2 (m + 9) (a + b) + mr σ m i a * mr σ m j b + c) / 65536 from Int.tdiv_eq_ediv_of_nonneg r4.1) ?_
          refine q_lst_6 d_Mo_product_127 (by decide) rfl ?_
          refine q_iinc_8 d_Mo_product_129 (by decide) rfl ?_
          refine q_goto (tgt := 59) d_Mo_product_132 (by decide) ?_
          refine q_drop_9 ?_
          have hrow : ∀ u, u ≠ a + b → q_up σ2 (m + 9) (a + b) ((σ2 (m + 9) (a + b) + mr σ m i a * mr σ m j b + c) % 65536) (m + 9) u = σ2 (m + 9) u := fun u hu => q_up_k _ _ hu
          exact ih (b + 1) (by omega) _ _ (fun q hq => by rw [q_up_a _ _ hq]; exact e1 q hq) (fun u hu => if e : u = a + b then by subst e; rw [q_up_self]; omega else by rw [hrow u e]; exact e2 u hu) (fun u h6 => by rw [hrow u (by omega)]; exact e3 u (by omega)) (by
            rw [dv_step (g := fun u => σ2 (m + 9) (a + u)) (s := mr σ m i a * mr σ m j b + σ2 (m + 9) (a + b)) e4 (fun u hu => hrow _ (by omega)) (by rw [q_up_self]; omega), dv_s, dv_s, e3 (a + b) (by omega)]
            grind) (by omega) _ (by omega)
      refine q_iload d_Mo_product_42 rfl ?_
      refine q_aload_n d_Mo_product_44 rfl ?_
      refine q_gr (by assumption) pc_Mo 2 (by decide) w_fl_Mo_14 rfl (by rfl) d_Mo_product_45 ?_
      refine q_iload_n d_Mo_product_48 rfl ?_
      refine q_ial (i) (by assumption) (by omega) (by omega) (by omega) d_Mo_product_49 ?_
      refine q_topi (show _ = (n : Int) by rw [o1 (m + 2) (by omega)]; exact h1) ?_
      refine q_icmp_ge (tgt := 158) (by omega) (by omega) d_Mo_product_50 (by decide) (fun c50 => absurd c50 (by omega)) (fun c50 => ?_)
      refine q_lconst (z := 0) d_Mo_product_53 (by decide) ?_
      refine q_lst_6 d_Mo_product_54 (by decide) rfl ?_
      refine q_iconst d_Mo_product_56 rfl ?_
      refine q_ist_8 d_Mo_product_57 (by decide) rfl ?_
      exact inner n' 0 (by omega) σ1 0 o1 o2 (fun u _ => rfl) (by simp [dv]) (by omega) _ rfl
  have loop1 : ∀ (d k : Nat), k + d = n + n' → ∀ (σ1 : q_S), (∀ q, q ≠ m + 9 → σ1 q = σ q) → (∀ u, u < k → σ1 (m + 9) u = 0) → ∀ t : Int, t = k → q_T l K L R_Mo b_Mo_product 11 none 2 (fun v σ' => v = none ∧ rV σ' m r (x * y) ∧ rO σ σ' m ∧ ∀ j, j ≠ r → rE σ σ' m j) 18 [some (.ref m), some (vi r), some (vi i), some (vi j), some (vi ((n : Int) + n')), some (vi t), none, none, none, none, none] [] σ1 := by
    intro d
    induction d with
    | zero =>
      intro k hk σ1 f1 f2 t ht
      refine q_iload d_Mo_product_18 rfl ?_
      refine q_iload d_Mo_product_20 rfl ?_
      refine q_icmp_ge (tgt := 39) (by omega) (by omega) d_Mo_product_22 (by decide) (fun c22 => ?_) (fun c22 => absurd c22 (by omega))
      refine q_iconst d_Mo_product_39 rfl ?_
      refine q_ist_5 d_Mo_product_40 (by decide) rfl ?_
      exact outer n 0 (by omega) σ1 f1 (fun u hu => by rw [f2 u (by omega)]; omega) (fun u _ hu => f2 u (by omega)) (by rw [dv_zero (fun u hu => f2 u (by omega))]; simp [dv]) _ rfl
    | succ d ih =>
      intro k hk σ1 f1 f2 t ht
      refine q_iload d_Mo_product_18 rfl ?_
      refine q_iload d_Mo_product_20 rfl ?_
      refine q_icmp_ge (tgt := 39) (by omega) (by omega) d_Mo_product_22 (by decide) (fun c22 => absurd c22 (by omega)) (fun c22 => ?_)
      refine q_aload_n d_Mo_product_25 rfl ?_
      refine q_gr (by assumption) pc_Mo 10 (by decide) w_fl_Mo_36 rfl (by rfl) d_Mo_product_26 ?_
      refine q_iload d_Mo_product_29 rfl ?_
      refine q_iconst d_Mo_product_31 rfl ?_
      refine q_ias (k) (by assumption) (by omega) (by omega) (by omega) d_Mo_product_32 ?_
      refine q_iinc_5 d_Mo_product_33 (by decide) rfl ?_
      refine q_goto (tgt := 18) d_Mo_product_36 (by decide) ?_
      exact ih (k + 1) (by omega) _ (fun q hq => by rw [q_up_a _ _ hq]; exact f1 q hq) (fun u hu => if e : u = k then by subst e; exact q_up_self _ _ _ _ else (q_up_k _ _ e).trans (f2 u (by omega))) _ (by omega)
  refine q_aload_n d_Mo_product_0 rfl ?_
  refine q_gr (by assumption) pc_Mo 2 (by decide) w_fl_Mo_14 rfl (by rfl) d_Mo_product_1 ?_
  refine q_iload_n d_Mo_product_4 rfl ?_
  refine q_ial (i) (by assumption) (by omega) (by omega) (by omega) d_Mo_product_5 ?_
  refine q_topi h1 ?_
  refine q_aload_n d_Mo_product_6 rfl ?_
  refine q_gr (by assumption) pc_Mo 2 (by decide) w_fl_Mo_14 rfl (by rfl) d_Mo_product_7 ?_
  refine q_iload_n d_Mo_product_10 rfl ?_
  refine q_ial (j) (by assumption) (by omega) (by omega) (by omega) d_Mo_product_11 ?_
  refine q_topi g1 ?_
  refine q_iadd d_Mo_product_12 ?_
  refine q_ist_4 d_Mo_product_13 (by decide) rfl ?_
  refine q_iconst d_Mo_product_15 rfl ?_
  refine q_ist_5 d_Mo_product_16 (by decide) rfl ?_
  exact loop1 (n + n') 0 (by omega) σ (fun q _ => rfl) (fun u hu => by omega) _ rfl
theorem sm_alg {x y f : Int} (hf : f = 1 ∨ f = -1) {sw mk bb : Int} (hsw : sw = if ¬ x.sign = (f * y).sign ∧ (x.natAbs : Int) < y.natAbs then 1 else 0) (hmk : mk = if sw = 1 ∨ x.sign = 0 then (f * y).sign else x.sign) (hbb : bb = if x.sign = (f * y).sign ∨ x.sign = 0 ∨ (f * y).sign = 0 then 1 else -1) :
    (sw = 0 ∨ sw = 1) ∧ (bb = 1 ∨ bb = -1) ∧ (mk = 0 ∨ mk = 1 ∨ mk = -1) ∧ (sw = 0 → 0 ≤ (x.natAbs : Int) + bb * y.natAbs ∧ mk * ((x.natAbs : Int) + bb * y.natAbs) = x + f * y ∧ (mk = 0 → (x.natAbs : Int) + bb * y.natAbs = 0)) ∧ (sw = 1 → 0 ≤ (y.natAbs : Int) + bb * x.natAbs ∧ mk * ((y.natAbs : Int) + bb * x.natAbs) = x + f * y ∧ (mk = 0 → (y.natAbs : Int) + bb * x.natAbs = 0)) := by
  have h1 := sg3 x
  have h2 := sg3 (f * y)
  have h0 : sw = 0 ∨ sw = 1 := by rw [hsw]; split <;> omega
  have hs0 : sw = 0 → x.sign = (f * y).sign ∨ (y.natAbs : Int) ≤ x.natAbs := by rw [hsw]; split <;> omega
  have hs1 : sw = 1 → ¬ x.sign = (f * y).sign ∧ (x.natAbs : Int) < y.natAbs := by rw [hsw]; split <;> omega
  have hb : (bb = 1 ∧ (x.sign = (f * y).sign ∨ x.sign = 0 ∨ (f * y).sign = 0)) ∨ (bb = -1 ∧ ¬ x.sign = (f * y).sign ∧ ¬ x.sign = 0 ∧ ¬ (f * y).sign = 0) := by rw [hbb]; split <;> omega
  have hm : (mk = (f * y).sign ∧ (sw = 1 ∨ x.sign = 0)) ∨ (mk = x.sign ∧ sw = 0 ∧ ¬ x.sign = 0) := by rw [hmk]; split <;> omega
  clear hsw hmk hbb
  refine ⟨h0, by omega, by omega, fun hw => ?_, fun hw => ?_⟩
  · have h3 := hs0 hw
    rcases hf with rfl | rfl <;> rcases hb with ⟨rfl, hb⟩ | ⟨rfl, hb⟩ <;> rcases hm with ⟨hm, hm2⟩ | ⟨hm, hm2⟩ <;> rcases h1 with h1 | h1 | h1 <;> rcases h2 with h2 | h2 | h2 <;> first | (exfalso; omega) | (rw [hm, h2.2]; omega) | (rw [hm, h1.2]; omega)
  · have h3 := hs1 hw
    rcases hf with rfl | rfl <;> rcases hb with ⟨rfl, hb⟩ | ⟨rfl, hb⟩ <;> rcases hm with ⟨hm, hm2⟩ | ⟨hm, hm2⟩ <;> rcases h1 with h1 | h1 | h1 <;> rcases h2 with h2 | h2 | h2 <;> first | (exfalso; omega) | (rw [hm, h2.2]; omega) | (rw [hm, h1.2]; omega)
theorem sm_sgn {mk S Z : Int} (h0 : 0 ≤ S) (hm : mk * S = Z) (h1 : mk = 0 ∨ mk = 1 ∨ mk = -1) (h2 : mk = 0 → S = 0) : S = Z.natAbs ∧ (Z ≠ 0 → mk = Z.sign) := by
  have h3 := sg3 Z
  rcases h1 with rfl | rfl | rfl <;> constructor <;> omega
def hid (p : Prop) : Prop := p
set_option maxHeartbeats 4000000 in
set_option maxRecDepth 100000 in
theorem c_Mo_sum (l : Launch) (K : pw_K) {L : q_L} {σ : q_S} {m r i j u : Nat} {x y f : Int} (hL : mL L m) (hr : r < 160) (hi : i < 160) (hj : j < 160) (hx : rV σ m i x) (hy : rV σ m j y) (hf : f = 1 ∨ f = -1) (hu : (x.natAbs : Int) < 65536 ^ u) (hv : (y.natAbs : Int) < 65536 ^ u) (hw : u + 1 ≤ 1024) : q_C l K L y_Mo_sum b_Mo_sum 15 none 2 [.ref m, vi r, vi i, vi j, vi f] σ (fun v σ' => v = none ∧ rV σ' m r (x + f * y) ∧ rO σ σ' m ∧ ∀ j, j ≠ r → rE σ σ' m j) := by
  obtain ⟨hM0, hM1, hM2, hM3, hM4, hM5, hM6, hM7, hM8, hM9⟩ := hL
  have hx0 := hx
  have hy0 := hy
  obtain ⟨n, hU, ht0⟩ := hx0
  obtain ⟨n', hU', gt0⟩ := hy0
  have hn := (hU.le ht0).mpr hu
  have hn' := (hU'.le gt0).mpr hv
  obtain ⟨h1, h2, h3, h4, h5⟩ := hU
  obtain ⟨g1, g2, g3, g4, g5⟩ := hU'
  obtain ⟨sw, hsw⟩ : ∃ sw : Int, sw = if ¬ x.sign = (f * y).sign ∧ (x.natAbs : Int) < y.natAbs then 1 else 0 := ⟨_, rfl⟩
  obtain ⟨mk, hmk⟩ : ∃ mk : Int, mk = if sw = 1 ∨ x.sign = 0 then (f * y).sign else x.sign := ⟨_, rfl⟩
  obtain ⟨bb, hbb⟩ : ∃ bb : Int, bb = if x.sign = (f * y).sign ∨ x.sign = 0 ∨ (f * y).sign = 0 then 1 else -1 := ⟨_, rfl⟩
  obtain ⟨hs01, hb1, hm1, hA0, hA1⟩ := sm_alg hf hsw hmk hbb
  obtain ⟨ra, rb, na, nb, xa, xb, hr1, hr0, hra, hrb, a1, b1, a4, b4, a5, b5, hna, hnb, hsg⟩ : ∃ (ra rb na nb : Nat) (xa xb : Int), hid (sw = 1 → ra = j ∧ rb = i) ∧ hid (sw = 0 → ra = i ∧ rb = j) ∧ ra < 160 ∧ rb < 160 ∧ σ (m + 2) ra = na ∧ σ (m + 2) rb = nb ∧ (∀ k, k < na → 0 ≤ mr σ m ra k ∧ mr σ m ra k < 65536) ∧ (∀ k, k < nb → 0 ≤ mr σ m rb k ∧ mr σ m rb k < 65536) ∧ dv 65536 (mr σ m ra) na = xa ∧ dv 65536 (mr σ m rb) nb = xb ∧ na ≤ max n n' ∧ nb ≤ max n n' ∧ hid (xa + bb * xb = (x + f * y).natAbs ∧ (x + f * y ≠ 0 → mk = (x + f * y).sign)) := by
    rcases hs01 with h | h
    · obtain ⟨q1, q2, q3⟩ := hA0 h
      exact ⟨i, j, n, n', _, _, fun hh => by omega, fun _ => ⟨rfl, rfl⟩, hi, hj, h1, g1, h4, g4, h5, g5, by omega, by omega, sm_sgn q1 q2 hm1 q3⟩
    · obtain ⟨q1, q2, q3⟩ := hA1 h
      exact ⟨j, i, n', n, _, _, fun _ => ⟨rfl, rfl⟩, fun hh => by omega, hj, hi, g1, h1, g4, h4, g5, h5, by omega, by omega, sm_sgn q1 q2 hm1 q3⟩
  have wA : hid (x.sign = (f * y).sign → sw = 0) := fun h => by rw [hsw]; exact if_neg (fun c => c.1 h)
  have wB : hid (¬ x.sign = (f * y).sign → 0 ≤ ((x.natAbs : Int) - y.natAbs).sign → sw = 0) := fun h h' => by rw [hsw]; exact if_neg (fun c => by have := sg_neg c.2; omega)
  have wC : hid (¬ x.sign = (f * y).sign → ¬ 0 ≤ ((x.natAbs : Int) - y.natAbs).sign → sw = 1) := fun h h' => by
    rw [hsw]
    refine if_pos ⟨h, ?_⟩
    clear hsw hmk hbb hA0 hA1 hs01 hb1 hm1 hsg
    have := sg3 ((x.natAbs : Int) - y.natAbs)
    omega
  have mA : hid (¬ sw = 0 → mk = (f * y).sign) := fun h => by rw [hmk]; exact if_pos (Or.inl (hs01.resolve_left h))
  have mB : hid (x.sign = 0 → mk = (f * y).sign) := fun h => by rw [hmk]; exact if_pos (Or.inr h)
  have mC : hid (sw = 0 → ¬ x.sign = 0 → mk = x.sign) := fun h h' => by rw [hmk]; exact if_neg (fun c => c.elim (fun c => by omega) h')
  have bA : hid (x.sign = (f * y).sign → bb = 1) := fun h => by rw [hbb]; exact if_pos (Or.inl h)
  have bB : hid (x.sign = 0 → bb = 1) := fun h => by rw [hbb]; exact if_pos (Or.inr (Or.inl h))
  have bC : hid ((f * y).sign = 0 → bb = 1) := fun h => by rw [hbb]; exact if_pos (Or.inr (Or.inr h))
  have bD : hid (¬ x.sign = (f * y).sign → ¬ x.sign = 0 → ¬ (f * y).sign = 0 → bb = -1) := fun h h' h'' => by rw [hbb]; exact if_neg (fun c => c.elim h (fun c => c.elim h' h''))
  clear hsw hmk hbb hA0 hA1
  refine q_start [some (.ref m), some (vi r), some (vi i), some (vi j), some (vi f), none, none, none, none, none, none, none, none, none, none] (by decide) (Nat.le_of_ble_eq_true rfl) (fun q h => h) ?_
  have loop : ∀ (d k : Nat), k + d = max n n' → ∀ (σ1 : q_S) (ov : Int), (∀ q, q ≠ m + 9 → σ1 q = σ q) → (∀ u, u < k → 0 ≤ σ1 (m + 9) u ∧ σ1 (m + 9) u < 65536) → dv 65536 (σ1 (m + 9)) k + ov * 65536 ^ k = dv 65536 (pd (mr σ m ra) na) k + bb * dv 65536 (pd (mr σ m rb) nb) k → (-1 ≤ ov ∧ ov ≤ 1) → ∀ t : Int, t = k →  q_T l K L R_Mo b_Mo_sum 15 none 2 (fun v σ' => v = none ∧ rV σ' m r (x + f * y) ∧ rO σ σ' m ∧ ∀ j, j ≠ r → rE σ σ' m j) 159 [some (.ref m), some (vi r), some (vi i), some (vi j), some (vi f), some (vi (f * y).sign), some (vi (max (n : Int) n')), some (vi sw), some (vi ra), some (vi rb), some (vi mk), some (vi bb), some (vi ov), some (vi t), none] [] σ1 := by
    intro d
    induction d with
    | zero =>
      intro k hk σ1 ov f1 f2 f3 f4 t ht
      refine q_iload d_Mo_sum_159 rfl ?_
      refine q_iload d_Mo_sum_161 rfl ?_
      refine q_icmp_ge (tgt := 235) (by omega) (by omega) d_Mo_sum_163 (by decide) (fun c163 => ?_) (fun c163 => absurd c163 (by omega))
      refine q_aload_n d_Mo_sum_235 rfl ?_
      refine q_gr (by assumption) pc_Mo 10 (by decide) w_fl_Mo_36 rfl (by rfl) d_Mo_sum_236 ?_
      refine q_iload d_Mo_sum_239 rfl ?_
      refine q_iload d_Mo_sum_241 rfl ?_
      refine q_ias (max n n') (by assumption) (by omega) (by omega) (by omega) d_Mo_sum_243 ?_
      obtain rfl : k = max n n' := by omega
      rw [dv_pd (by omega), dv_pd (by omega), a5, b5] at f3
      have ho : 0 ≤ ov := by
        rcases Int.lt_or_le ov 0 with h | h
        · obtain rfl : ov = -1 := by omega
          have := (dv_range (B := 65536) (by decide) f2).2
          have h8 := hsg.1
          omega
        · exact h
      have hdv : dv 65536 (q_up σ1 (m + 9) (max n n') ov (m + 9)) (max n n' + 1) = (x + f * y).natAbs := by
        rw [dv_s, dv_congr (h := σ1 (m + 9)) (fun u hu => q_up_k _ _ (by omega)), q_up_self, f3]
        exact hsg.1
      have hr9 : ∀ u, u < max n n' + 1 → 0 ≤ q_up σ1 (m + 9) (max n n') ov (m + 9) u ∧ q_up σ1 (m + 9) (max n n') ov (m + 9) u < 65536 := fun u hu => if e : u = max n n' then by subst e; rw [q_up_self]; omega else by rw [q_up_k _ _ e]; exact f2 u (by omega)
      refine q_aload_n d_Mo_sum_244 rfl ?_
      refine q_iload_n d_Mo_sum_245 rfl ?_
      refine q_iload d_Mo_sum_246 rfl ?_
      refine q_iconst d_Mo_sum_248 rfl ?_
      refine q_iadd d_Mo_sum_249 ?_
      refine q_iload d_Mo_sum_250 rfl ?_
      refine q_callV (As := [vi r, vi (max (n : Int) n' + 1), vi mk]) (by rw [show max (n : Int) n' + 1 = ((max n n' + 1 : Nat) : Int) by omega]; exact c_Mo_takes l K (N := max n n' + 1) ⟨hM0, hM1, hM2, hM3, hM4, hM5, hM6, hM7, hM8, hM9⟩ hr (by omega) hr9) w_cd_Mo_takes w_ini_Mo w_ml_Mo_53 w_im_Mo_takes w_se_Mo_takes (by assumption) rfl hd_Mo_takes rfl (Nat.le_of_ble_eq_true rfl) d_Mo_sum_252 (by decide) (by decide) (fun v σ2 hp => ?_)
      obtain ⟨rfl, ⟨n2, k1, k2⟩, k3, k4, k5⟩ := hp
      exact q_vret rfl (⟨rfl, by rw [hdv] at k1; exact k1.val k2 rfl hsg.2, fun q h6 h7 h8 h9 => by rw [k3 q h6 h7 h8 h9, q_up_a _ _ h9, f1 q h9], fun u hu => rE.trans ⟨fun w _ => by show q_up σ1 (m + 9) _ ov (m + 1) _ = σ (m + 1) _; rw [q_up_a _ _ (by omega), f1 _ (by omega)], by rw [q_up_a _ _ (by omega), f1 _ (by omega)], by rw [q_up_a _ _ (by omega), f1 _ (by omega)]⟩ (k5 u hu)⟩) d_Mo_sum_255
    | succ d ih =>
      intro k hk σ1 ov f1 f2 f3 f4 t ht
      refine q_iload d_Mo_sum_159 rfl ?_
      refine q_iload d_Mo_sum_161 rfl ?_
      refine q_icmp_ge (tgt := 235) (by omega) (by omega) d_Mo_sum_163 (by decide) (fun c163 => absurd c163 (by omega)) (fun c163 => ?_)
      have r1 := pd_r16 a4 k
      have r2 := pd_r16 b4 k
      have r3 : -65535 ≤ bb * pd (mr σ m rb) nb k ∧ bb * pd (mr σ m rb) nb k ≤ 65535 := by rcases hb1 with rfl | rfl <;> omega
      obtain ⟨vv, hvv⟩ : ∃ vv : Int, vv = pd (mr σ m ra) na k + bb * pd (mr σ m rb) nb k + ov := ⟨_, rfl⟩
      obtain ⟨nv, hnv⟩ : ∃ nv : Int, nv = if vv < 0 then -1 else if 65536 ≤ vv then 1 else 0 := ⟨_, rfl⟩
      have r4 : (-1 ≤ nv ∧ nv ≤ 1) ∧ 0 ≤ vv - nv * 65536 ∧ vv - nv * 65536 < 65536 := by
        rw [hnv]
        split
        · omega
        · split <;> omega
      have hmr : ∀ i, mr σ1 m i = mr σ m i := fun i => by funext u; show σ1 (m + 1) _ = σ (m + 1) _; rw [f1 _ (by omega)]
      have r1 := pd_r16 a4 k
      have r2 := pd_r16 b4 k
      have r3 : -65535 ≤ bb * pd (mr σ m rb) nb k ∧ bb * pd (mr σ m rb) nb k ≤ 65535 := by rcases hb1 with rfl | rfl <;> omega
      obtain ⟨vv, hvv⟩ : ∃ vv : Int, vv = pd (mr σ m ra) na k + bb * pd (mr σ m rb) nb k + ov := ⟨_, rfl⟩
      obtain ⟨nv, hnv⟩ : ∃ nv : Int, nv = if vv < 0 then -1 else if 65536 ≤ vv then 1 else 0 := ⟨_, rfl⟩
      have r4 : (-1 ≤ nv ∧ nv ≤ 1) ∧ 0 ≤ vv - nv * 65536 ∧ vv - nv * 65536 < 65536 := by
        rw [hnv]
        split
        · omega
        · split <;> omega
      have hmr : ∀ i, mr σ1 m i = mr σ m i := fun i => by funext u; show σ1 (m + 1) _ = σ (m + 1) _; rw [f1 _ (by omega)]
      refine q_aload_n d_Mo_sum_166 rfl ?_
      refine q_iload d_Mo_sum_167 rfl ?_
      refine q_iload d_Mo_sum_169 rfl ?_
      refine q_callV (As := [vi ra, vi t]) (by rw [ht]; exact c_Mo_at l K (r := ra) (n := na) k ⟨hM0, hM1, hM2, hM3, hM4, hM5, hM6, hM7, hM8, hM9⟩ (by omega) (by rw [f1 (m + 2) (by omega)]; exact a1) (by omega) (by omega)) w_cd_Mo_at w_ini_Mo w_ml_Mo_45 w_im_Mo_at w_se_Mo_at (by assumption) rfl hd_Mo_at rfl (Nat.le_of_ble_eq_true rfl) d_Mo_sum_171 (by decide) (by decide) (fun v σ9 hp => ?_)
      obtain ⟨rfl, hσ⟩ := hp
      rw [hσ]
      clear hσ σ9
      refine q_topi (show _ = pd (mr σ m ra) na k by rw [hmr]) ?_
      refine q_iload d_Mo_sum_174 rfl ?_
      refine q_aload_n d_Mo_sum_176 rfl ?_
      refine q_iload d_Mo_sum_177 rfl ?_
      refine q_iload d_Mo_sum_179 rfl ?_
      refine q_callV (As := [vi rb, vi t]) (by rw [ht]; exact c_Mo_at l K (r := rb) (n := nb) k ⟨hM0, hM1, hM2, hM3, hM4, hM5, hM6, hM7, hM8, hM9⟩ (by omega) (by rw [f1 (m + 2) (by omega)]; exact b1) (by omega) (by omega)) w_cd_Mo_at w_ini_Mo w_ml_Mo_45 w_im_Mo_at w_se_Mo_at (by assumption) rfl hd_Mo_at rfl (Nat.le_of_ble_eq_true rfl) d_Mo_sum_181 (by decide) (by decide) (fun v σ9 hp => ?_)
      obtain ⟨rfl, hσ⟩ := hp
      rw [hσ]
      clear hσ σ9
      refine q_topi (show _ = pd (mr σ m rb) nb k by rw [hmr]) ?_
      refine q_imul d_Mo_sum_184 ?_
      refine q_iadd d_Mo_sum_185 ?_
      refine q_iload d_Mo_sum_186 rfl ?_
      refine q_iadd d_Mo_sum_188 ?_
      refine q_topi hvv.symm ?_
      refine q_ist_14 d_Mo_sum_189 (by decide) rfl ?_
      refine q_iload d_Mo_sum_191 rfl ?_
      refine q_jn1 (V := nv) 212 (fun jn => ?_) ?_
      · refine q_if_ge (tgt := 200) (by omega) d_Mo_sum_193 (by decide) (fun c193 => ?_) (fun c193 => ?_)
        · refine q_iload d_Mo_sum_200 rfl ?_
          refine q_ldc (z := 65536) w_k_Mo_52 (by decide) d_Mo_sum_202 ?_
          refine q_icmp_lt (tgt := 211) (by omega) (by omega) d_Mo_sum_204 (by decide) (fun c204 => ?_) (fun c204 => ?_)
          · refine q_iconst d_Mo_sum_211 rfl ?_
            exact jn _ (by rw [hnv]; rw [if_neg (by omega)]; first | exact (if_pos (by omega)).symm | exact (if_neg (by omega)).symm)
          · refine q_iconst d_Mo_sum_207 rfl ?_
            refine q_goto (tgt := 212) d_Mo_sum_208 (by decide) ?_
            exact jn _ (by rw [hnv]; rw [if_neg (by omega)]; first | exact (if_pos (by omega)).symm | exact (if_neg (by omega)).symm)
        · refine q_iconst d_Mo_sum_196 rfl ?_
          refine q_goto (tgt := 212) d_Mo_sum_197 (by decide) ?_
          exact jn _ (by rw [hnv]; exact (if_pos (by omega)).symm)
      · refine q_ist_12 d_Mo_sum_212 (by decide) rfl ?_
        refine q_aload_n d_Mo_sum_214 rfl ?_
        refine q_gr (by assumption) pc_Mo 10 (by decide) w_fl_Mo_36 rfl (by rfl) d_Mo_sum_215 ?_
        refine q_iload d_Mo_sum_218 rfl ?_
        refine q_iload d_Mo_sum_220 rfl ?_
        refine q_iload d_Mo_sum_222 rfl ?_
        refine q_ldc (z := 65536) w_k_Mo_52 (by decide) d_Mo_sum_224 ?_
        refine q_imul d_Mo_sum_226 ?_
        refine q_isub d_Mo_sum_227 ?_
        refine q_ias (k) (by assumption) (by omega) (by omega) (by omega) d_Mo_sum_228 ?_
        refine q_iinc_13 d_Mo_sum_229 (by decide) rfl ?_
        refine q_goto (tgt := 159) d_Mo_sum_232 (by decide) ?_
        refine q_drop_14 ?_
        exact ih (k + 1) (by omega) _ _ (fun q hq => by rw [q_up_a _ _ hq]; exact f1 q hq) (fun u hu => if e : u = k then by subst e; rw [q_up_self]; exact r4.2 else by rw [q_up_k _ _ e]; exact f2 u (by omega)) (by rw [dv_step (s := pd (mr σ m ra) na k + bb * pd (mr σ m rb) nb k) f3 (fun u hu => q_up_k _ _ (by omega)) (by rw [q_up_self]; omega), dv_s, dv_s]; grind) r4.1 _ (by omega)
  refine q_iload d_Mo_sum_0 rfl ?_
  refine q_aload_n d_Mo_sum_2 rfl ?_
  refine q_gr (by assumption) pc_Mo 3 (by decide) w_fl_Mo_17 rfl (by rfl) d_Mo_sum_3 ?_
  refine q_iload_n d_Mo_sum_6 rfl ?_
  refine q_ial (j) (by assumption) (by omega) (by omega) (by omega) d_Mo_sum_7 ?_
  refine q_topi g2 ?_
  refine q_imul d_Mo_sum_8 ?_
  refine q_topi (show _ = (f * y).sign by rw [Int.mul_comm]; exact sg_mul hf y) ?_
  refine q_ist_5 d_Mo_sum_9 (by decide) rfl ?_
  refine q_aload_n d_Mo_sum_11 rfl ?_
  refine q_gr (by assumption) pc_Mo 2 (by decide) w_fl_Mo_14 rfl (by rfl) d_Mo_sum_12 ?_
  refine q_iload_n d_Mo_sum_15 rfl ?_
  refine q_ial (i) (by assumption) (by omega) (by omega) (by omega) d_Mo_sum_16 ?_
  refine q_topi h1 ?_
  refine q_aload_n d_Mo_sum_17 rfl ?_
  refine q_gr (by assumption) pc_Mo 2 (by decide) w_fl_Mo_14 rfl (by rfl) d_Mo_sum_18 ?_
  refine q_iload_n d_Mo_sum_21 rfl ?_
  refine q_ial (j) (by assumption) (by omega) (by omega) (by omega) d_Mo_sum_22 ?_
  refine q_topi g1 ?_
  refine q_jn2 (V := max (n : Int) n') 41 (fun jn => ?_) ?_
  · refine q_icmp_le (tgt := 35) (by omega) (by omega) d_Mo_sum_23 (by decide) (fun c23 => ?_) (fun c23 => ?_)
    · refine q_aload_n d_Mo_sum_35 rfl ?_
      refine q_gr (by assumption) pc_Mo 2 (by decide) w_fl_Mo_14 rfl (by rfl) d_Mo_sum_36 ?_
      refine q_iload_n d_Mo_sum_39 rfl ?_
      refine q_ial (j) (by assumption) (by omega) (by omega) (by omega) d_Mo_sum_40 ?_
      refine q_topi g1 ?_
      exact jn _ (by omega)
    · refine q_aload_n d_Mo_sum_26 rfl ?_
      refine q_gr (by assumption) pc_Mo 2 (by decide) w_fl_Mo_14 rfl (by rfl) d_Mo_sum_27 ?_
      refine q_iload_n d_Mo_sum_30 rfl ?_
      refine q_ial (i) (by assumption) (by omega) (by omega) (by omega) d_Mo_sum_31 ?_
      refine q_topi h1 ?_
      refine q_goto (tgt := 41) d_Mo_sum_32 (by decide) ?_
      exact jn _ (by omega)
  · refine q_ist_6 d_Mo_sum_41 (by decide) rfl ?_
    refine q_aload_n d_Mo_sum_43 rfl ?_
    refine q_gr (by assumption) pc_Mo 3 (by decide) w_fl_Mo_17 rfl (by rfl) d_Mo_sum_44 ?_
    refine q_iload_n d_Mo_sum_47 rfl ?_
    refine q_ial (i) (by assumption) (by omega) (by omega) (by omega) d_Mo_sum_48 ?_
    refine q_topi h2 ?_
    refine q_iload d_Mo_sum_49 rfl ?_
    refine q_jn2 (V := sw) 68 (fun jn => ?_) ?_
    · refine q_icmp_eq (tgt := 67) (by have := sg3 x; omega) (by have := sg3 (f * y); omega) d_Mo_sum_51 (by decide) (fun c51 => ?_) (fun c51 => ?_)
      · refine q_iconst d_Mo_sum_67 rfl ?_
        exact jn _ ((wA (by assumption)).symm)
      · refine q_aload_n d_Mo_sum_54 rfl ?_
        refine q_iload_n d_Mo_sum_55 rfl ?_
        refine q_iload_n d_Mo_sum_56 rfl ?_
        refine q_callV (As := [vi i, vi j]) (c_Mo_against l K ⟨hM0, hM1, hM2, hM3, hM4, hM5, hM6, hM7, hM8, hM9⟩ hi hj hx hy) w_cd_Mo_against w_ini_Mo w_ml_Mo_49 w_im_Mo_against w_se_Mo_against (by assumption) rfl hd_Mo_against rfl (Nat.le_of_ble_eq_true rfl) d_Mo_sum_57 (by decide) (by decide) (fun v σ9 hp => ?_)
        obtain ⟨rfl, hσ⟩ := hp
        rw [hσ]
        clear hσ σ9
        refine q_if_ge (tgt := 67) (by have := sg3 ((x.natAbs : Int) - y.natAbs); omega) d_Mo_sum_60 (by decide) (fun c60 => ?_) (fun c60 => ?_)
        · refine q_iconst d_Mo_sum_67 rfl ?_
          exact jn _ (by first | exact (wB (by assumption) (by assumption)).symm | exact (wC (by assumption) (by assumption)).symm)
        · refine q_iconst d_Mo_sum_63 rfl ?_
          refine q_goto (tgt := 68) d_Mo_sum_64 (by decide) ?_
          exact jn _ (by first | exact (wB (by assumption) (by assumption)).symm | exact (wC (by assumption) (by assumption)).symm)
    · refine q_ist_7 d_Mo_sum_68 (by decide) rfl ?_
      refine q_iload d_Mo_sum_70 rfl ?_
      refine q_jn1 (V := (ra : Int)) 80 (fun jn => ?_) ?_
      · refine q_if_eq (tgt := 79) (by omega) d_Mo_sum_72 (by decide) (fun c72 => ?_) (fun c72 => ?_)
        · refine q_iload_n d_Mo_sum_79 rfl ?_
          exact jn _ (by rw [(hr0 c72).1])
        · refine q_iload_n d_Mo_sum_75 rfl ?_
          refine q_goto (tgt := 80) d_Mo_sum_76 (by decide) ?_
          exact jn _ (by rw [(hr1 (by omega)).1])
      · refine q_ist_8 d_Mo_sum_80 (by decide) rfl ?_
        refine q_iload d_Mo_sum_82 rfl ?_
        refine q_jn1 (V := (rb : Int)) 92 (fun jn => ?_) ?_
        · refine q_if_eq (tgt := 91) (by omega) d_Mo_sum_84 (by decide) (fun c84 => ?_) (fun c84 => ?_)
          · refine q_iload_n d_Mo_sum_91 rfl ?_
            exact jn _ (by rw [(hr0 c84).2])
          · refine q_iload_n d_Mo_sum_87 rfl ?_
            refine q_goto (tgt := 92) d_Mo_sum_88 (by decide) ?_
            exact jn _ (by rw [(hr1 (by omega)).2])
        · refine q_ist_9 d_Mo_sum_92 (by decide) rfl ?_
          refine q_iload d_Mo_sum_94 rfl ?_
          refine q_jn1 (V := mk) 119 (fun jn => ?_) ?_
          · refine q_if_ne (tgt := 108) (by omega) d_Mo_sum_96 (by decide) (fun c96 => ?_) (fun c96 => ?_)
            · refine q_iload d_Mo_sum_108 rfl ?_
              refine q_goto (tgt := 119) d_Mo_sum_110 (by decide) ?_
              exact jn _ ((mA (by assumption)).symm)
            · refine q_aload_n d_Mo_sum_99 rfl ?_
              refine q_gr (by assumption) pc_Mo 3 (by decide) w_fl_Mo_17 rfl (by rfl) d_Mo_sum_100 ?_
              refine q_iload_n d_Mo_sum_103 rfl ?_
              refine q_ial (i) (by assumption) (by omega) (by omega) (by omega) d_Mo_sum_104 ?_
              refine q_topi h2 ?_
              refine q_if_ne (tgt := 113) (by have := sg3 x; omega) d_Mo_sum_105 (by decide) (fun c105 => ?_) (fun c105 => ?_)
              · refine q_aload_n d_Mo_sum_113 rfl ?_
                refine q_gr (by assumption) pc_Mo 3 (by decide) w_fl_Mo_17 rfl (by rfl) d_Mo_sum_114 ?_
                refine q_iload_n d_Mo_sum_117 rfl ?_
                refine q_ial (i) (by assumption) (by omega) (by omega) (by omega) d_Mo_sum_118 ?_
                refine q_topi h2 ?_
                exact jn _ (by first | exact (mB (by assumption)).symm | exact (mC (by assumption) (by assumption)).symm)
              · refine q_iload d_Mo_sum_108 rfl ?_
                refine q_goto (tgt := 119) d_Mo_sum_110 (by decide) ?_
                exact jn _ (by first | exact (mB (by assumption)).symm | exact (mC (by assumption) (by assumption)).symm)
          · refine q_ist_10 d_Mo_sum_119 (by decide) rfl ?_
            refine q_aload_n d_Mo_sum_121 rfl ?_
            refine q_gr (by assumption) pc_Mo 3 (by decide) w_fl_Mo_17 rfl (by rfl) d_Mo_sum_122 ?_
            refine q_iload_n d_Mo_sum_125 rfl ?_
            refine q_ial (i) (by assumption) (by omega) (by omega) (by omega) d_Mo_sum_126 ?_
            refine q_topi h2 ?_
            refine q_iload d_Mo_sum_127 rfl ?_
            refine q_jn2 (V := bb) 151 (fun jn => ?_) ?_
            · refine q_icmp_eq (tgt := 146) (by have := sg3 x; omega) (by have := sg3 (f * y); omega) d_Mo_sum_129 (by decide) (fun c129 => ?_) (fun c129 => ?_)
              · refine q_iconst d_Mo_sum_146 rfl ?_
                refine q_goto (tgt := 151) d_Mo_sum_147 (by decide) ?_
                exact jn _ ((bA (by assumption)).symm)
              · refine q_aload_n d_Mo_sum_132 rfl ?_
                refine q_gr (by assumption) pc_Mo 3 (by decide) w_fl_Mo_17 rfl (by rfl) d_Mo_sum_133 ?_
                refine q_iload_n d_Mo_sum_136 rfl ?_
                refine q_ial (i) (by assumption) (by omega) (by omega) (by omega) d_Mo_sum_137 ?_
                refine q_topi h2 ?_
                refine q_if_eq (tgt := 146) (by have := sg3 x; omega) d_Mo_sum_138 (by decide) (fun c138 => ?_) (fun c138 => ?_)
                · refine q_iconst d_Mo_sum_146 rfl ?_
                  refine q_goto (tgt := 151) d_Mo_sum_147 (by decide) ?_
                  exact jn _ (by first | exact (bB (by assumption)).symm | exact (bC (by assumption)).symm | exact (bD (by assumption) (by assumption) (by assumption)).symm)
                · refine q_iload d_Mo_sum_141 rfl ?_
                  refine q_if_ne (tgt := 150) (by have := sg3 (f * y); omega) d_Mo_sum_143 (by decide) (fun c143 => ?_) (fun c143 => ?_)
                  · refine q_iconst d_Mo_sum_150 rfl ?_
                    exact jn _ (by first | exact (bB (by assumption)).symm | exact (bC (by assumption)).symm | exact (bD (by assumption) (by assumption) (by assumption)).symm)
                  · refine q_iconst d_Mo_sum_146 rfl ?_
                    refine q_goto (tgt := 151) d_Mo_sum_147 (by decide) ?_
                    exact jn _ (by first | exact (bB (by assumption)).symm | exact (bC (by assumption)).symm | exact (bD (by assumption) (by assumption) (by assumption)).symm)
            · refine q_ist_11 d_Mo_sum_151 (by decide) rfl ?_
              refine q_iconst d_Mo_sum_153 rfl ?_
              refine q_ist_12 d_Mo_sum_154 (by decide) rfl ?_
              refine q_iconst d_Mo_sum_156 rfl ?_
              refine q_ist_13 d_Mo_sum_157 (by decide) rfl ?_
              exact loop (max n n') 0 (by omega) σ 0 (fun q _ => rfl) (fun u hu => by omega) (by simp [dv]) (by omega) _ rfl
