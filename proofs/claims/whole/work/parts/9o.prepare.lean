/-! CHAIN: build of a number alone; HELD: prepare -/
set_option maxHeartbeats 4000000 in
set_option maxRecDepth 100000 in
theorem c_Ch_build0 (l : Launch) (K : pw_K) {L : q_L} {σ : q_S} {ch B h : Nat} (hL : chL L ch h) (hbL : beL L B) (hdj : ch + 112 + 2 * h ≤ B ∨ B + 91 ≤ ch) (hd1 : σ (ch + chO h 1) 1 = -1) : q_C l K L y_Ch_build b_Ch_build 5 none 5 [.ref ch, .ref B] σ (fun r σ' => r = none ∧ σ' ch 1 = 1 ∧ ∀ q, q ≠ ch → (q < B + 17 ∨ B + 20 < q) → σ' q = σ q) := by
  obtain ⟨hc0, ⟨g, hg1, hg2⟩, hpl⟩ := hL
  have hb0 := hbL.1
  have hS : nL L (B + 17) 160 := hbL.2.1 8 (by decide)
  have hH : nL L (B + 19) 160 := hbL.2.1 9 (by decide)
  refine q_start [some (.ref ch), some (.ref B), none, none, none] (by decide) (Nat.le_of_ble_eq_true rfl) (fun q h => h) ?_
  refine q_aload_n d_Ch_build_0 rfl ?_
  refine q_aload_n d_Ch_build_1 rfl ?_
  refine q_gr hc0 pc_Ch 0 (by decide) w_fl_Ch_11 rfl (by rfl) d_Ch_build_2 ?_
  refine q_iconst d_Ch_build_5 rfl ?_
  refine q_aal (1) 5 (b := ch + chO h 1) rfl hg1 (by omega) (by omega) (by omega) (hg2 1 (by decide)) d_Ch_build_6 ?_
  refine q_gi (hpl 1 (by decide)).1 pc_Py 1 (by decide) w_fl_Ch_35 rfl (by rfl) d_Ch_build_7 ?_
  refine q_topi hd1 ?_
  refine q_if_ge (tgt := 17) (by omega) d_Ch_build_10 (by decide) (fun c10 => absurd c10 (by omega)) (fun c10 => ?_)
  refine q_iconst d_Ch_build_13 rfl ?_
  refine q_goto (tgt := 18) d_Ch_build_14 (by decide) ?_
  refine q_pi hc0 pc_Ch 1 (by decide) w_fl_Ch_18 rfl rfl rfl rfl (by rfl) d_Ch_build_18 ?_
  refine q_aload_n d_Ch_build_21 rfl ?_
  refine q_gr hb0 pc_Be 8 (by decide) w_fl_Ch_38 rfl (by rfl) d_Ch_build_22 ?_
  refine q_lconst (z := 1) d_Ch_build_25 (by decide) ?_
  refine q_callV (As := [vl 1]) (q_Nu_setLong l K _ hS (by decide) (by omega)) w_cd_Nu_setLong w_ini_Nu w_ml_Ch_44 w_im_Nu_setLong w_se_Nu_setLong hS.1.1 rfl hd_Nu_setLong rfl (Nat.le_of_ble_eq_true rfl) d_Ch_build_26 (by decide) (by decide) (fun v σ1 hp => ?_)
  obtain ⟨rfl, k1, k2⟩ := hp
  refine q_aload_n d_Ch_build_29 rfl ?_
  refine q_gr hb0 pc_Be 9 (by decide) w_fl_Ch_50 rfl (by rfl) d_Ch_build_30 ?_
  refine q_lconst (z := 1) d_Ch_build_33 (by decide) ?_
  refine q_callV (As := [vl 1]) (q_Nu_setLong l K _ hH (by decide) (by omega)) w_cd_Nu_setLong w_ini_Nu w_ml_Ch_44 w_im_Nu_setLong w_se_Nu_setLong hH.1.1 rfl hd_Nu_setLong rfl (Nat.le_of_ble_eq_true rfl) d_Ch_build_34 (by decide) (by decide) (fun v σ2 hp => ?_)
  obtain ⟨rfl, k3, k4⟩ := hp
  have k5 : σ2 ch 1 = 1 := by rw [k4 _ (by omega) (by omega), k2 _ (by omega) (by omega), q_up_self]
  refine q_aload_n d_Ch_build_37 rfl ?_
  refine q_gi hc0 pc_Ch 1 (by decide) w_fl_Ch_18 rfl (by rfl) d_Ch_build_38 ?_
  refine q_topi k5 ?_
  refine q_iconst d_Ch_build_41 rfl ?_
  refine q_icmp_le (tgt := 198) (by omega) (by omega) d_Ch_build_42 (by decide) (fun c42 => ?_) (fun c42 => absurd c42 (by omega))
  exact q_vret rfl (⟨rfl, k5, fun q h1 h2 => by rw [k4 q (by omega) (by omega), k2 q (by omega) (by omega), q_up_a _ _ h1]⟩) d_Ch_build_198
/-- the chain's links lie in the store -/
def cst (σ : q_S) (a M : Nat) (F : Nat → Nat → Int) (d : Nat → Nat) : Prop := M ≤ 9 ∧ σ (a + 22) 1 = (M : Int) + 1 ∧ ∀ k, k ≤ M → d k < chN 9 k ∧ σ (a + 22 + chO 9 k) 1 = (d k : Int) ∧ ∀ c, c ≤ d k → nV σ (a + 22 + chO 9 k + 2 + 2 * c) 48 (F k c)
theorem cst.mv {σ σ' : q_S} {a M : Nat} {F : Nat → Nat → Int} {d : Nat → Nat} (h : cst σ a M F d) (e1 : σ' (a + 22) 1 = σ (a + 22) 1) (e : ∀ q, a + 22 < q → q < a + 152 → σ' q = σ q) : cst σ' a M F d := by
  have hM := h.1
  refine ⟨hM, by rw [e1]; exact h.2.1, fun k hk => ?_⟩
  have p1 := chO_end (h := 9) (k := k) (by omega)
  have p2 := chO_ge (h := 9) (k := k)
  obtain ⟨h1, h2, h3⟩ := h.2.2 k hk
  exact ⟨h1, by rw [e _ (by omega) (by omega)]; exact h2, fun c hc => (h3 c hc).mv (e _ (by omega) (by omega)) (e _ (by omega) (by omega))⟩
/-- what the class holds of a polynomial, once it is prepared -/
def hok (σ : q_S) (a : Nat) (P : Nat → Int) (n M : Nat) (F : Nat → Nat → Int) (d : Nat → Nat) (re : Nat) : Prop := gch P n M F d ∧ cst σ a M F d ∧ σ a 4 = 1 ∧ σ a 5 = vlo F d M - vhi F d M ∧ σ a 6 = (n : Int) - d 0 ∧ σ a 7 = vlo F d M ∧ σ a 8 = (re : Int) ∧ re ≤ 32 ∧ (re = 32 ∨ rok (F 0) (d 0) re)
theorem top_lead {P : Nat → Int} {n : Nat} (h : P n ≠ 0) : top P (n + 1) = n + 1 := by rw [top, if_neg h]
theorem cin_chN {F : Nat → Nat → Int} {d : Nat → Nat} {f g M : Nat} (h : chs F d f g M) (h0 : d 0 < 9) (h1 : d 1 < 9) (hM : M ≤ 9) : ∀ k, k ≤ M → d k < chN 9 k := by
  obtain ⟨sc, ht, hc, -⟩ := h
  intro k hk
  unfold chN
  split
  · rename_i e; subst e; exact h0
  · rename_i e
    have := cin_deg hc k (by omega) hk
    omega
theorem qs_bd {Q D : Nat → Int} {x y : Nat} (hQ : ∀ k, (Q k).natAbs ≤ x) (hD : ∀ k, (D k).natAbs ≤ y) (c : Nat) : ∀ j, (qs Q D j c).natAbs ≤ j * (x * y)
  | 0 => by simp [qs]
  | j + 1 => by
    have h1 := qs_bd hQ hD c j
    have h2 : (Q j * shP D j c).natAbs ≤ x * y := by
      rw [Int.natAbs_mul]
      refine Nat.mul_le_mul (hQ j) ?_
      unfold shP
      split
      · simp
      · exact hD _
    have h3 := Int.natAbs_add_le (qs Q D j c) (Q j * shP D j c)
    rw [Nat.add_mul, Nat.one_mul]
    simp only [qs]
    omega
theorem tdiv_le (x : Int) (g : Nat) : (x.tdiv (g : Int)).natAbs ≤ x.natAbs := by
  rw [Int.natAbs_tdiv]
  exact Nat.div_le_self _ _
set_option maxHeartbeats 4000000 in
set_option maxRecDepth 100000 in
theorem c_He_prepare (l : Launch) (K : pw_K) {L : q_L} {σ : q_S} {a B n : Nat} {P : Nat → Int} (hL : heL L a) (hbL : beL L B) (hdj : a + 177 ≤ B ∨ B + 91 ≤ a) (hrd : σ a 4 = 0) (hn : n ≤ 8) (hd : σ (a + 2) 1 = n) (hP : ∀ k, k ≤ n → nV σ (a + 2 + 2 + 2 * k) 48 (P k)) (hz : ∀ c, n < c → P c = 0) (hl : P n ≠ 0) (hPb : ∀ k, (P k).natAbs ≤ 2147483648) : q_C l K L y_He_prepare b_He_prepare 3 none 6 [.ref a, .ref B] σ (fun r σ' => r = none ∧ (∃ (M : Nat) (F : Nat → Nat → Int) (d : Nat → Nat) (re : Nat), hok σ' a P n M F d re) ∧ (∀ i, i < 8 → σ' (a + 153 + 3 * i) 3 = 0) ∧ (∀ q, (q < a ∨ (a < q ∧ q ≤ a + 21) ∨ a + 177 ≤ q) → (q ≤ B ∨ B + 91 ≤ q) → σ' q = σ q)) := by
  have hLL := hL
  obtain ⟨hH0, hH1, hps, hch, ⟨rg, hrg, hrg2⟩, hroA⟩ := hL
  have hchL := hch
  obtain ⟨hc0, ⟨g, hg1, hg2⟩, hpl⟩ := hch
  have hp0 : pL L (a + 24) 9 48 := hpl 0 (by decide)
  have hb0 := hbL.1
  have hPl : ∀ k, ((P k).natAbs : Int) < 2147483648 ^ 2 := fun k => lim_ofI (x := 31) (hPb k)
  have c92 : chO 9 2 = 42 := rfl
  have c91 : chO 9 1 = 22 := rfl
  refine q_start [some (.ref a), some (.ref B), none] (by decide) (Nat.le_of_ble_eq_true rfl) (fun q h => h) ?_
  have tail : ∀ (σ1 : q_S) (M : Nat) (F : Nat → Nat → Int) (d : Nat → Nat), gch P n M F d → cst σ1 a M F d → σ1 a 6 = (n : Int) - d 0 → (∀ q, (q < a ∨ (a < q ∧ q ≤ a + 21) ∨ a + 177 ≤ q) → (q ≤ B ∨ B + 91 ≤ q) → σ1 q = σ q) → q_T l K L R_He b_He_prepare 3 none 6 (fun r σ' => r = none ∧ (∃ (M : Nat) (F : Nat → Nat → Int) (d : Nat → Nat) (re : Nat), hok σ' a P n M F d re) ∧ (∀ i, i < 8 → σ' (a + 153 + 3 * i) 3 = 0) ∧ (∀ q, (q < a ∨ (a < q ∧ q ≤ a + 21) ∨ a + 177 ≤ q) → (q ≤ B ∨ B + 91 ≤ q) → σ' q = σ q)) 107 [some (.ref a), some (.ref B), none] [] σ1 := by
    intro σ1 M F d hg f1 f3 f4
    have hM := f1.1
    have hcn := hg.cnt
    have hzq := hg.zq
    have r1 : 0 ≤ vhi F d M ∧ vhi F d M ≤ 100 := by
      have := vr_r (s := fun k => fs 1 (d k + 1) (F k (d k))) (fun k => by unfold fs; split; omega; split; have := sgn_b (F k (d k)); omega; exact sgn_b _) (M + 1)
      unfold vhi; omega
    have loop : ∀ (r i : Nat), i + r = 8 → ∀ (σ2 : q_S), hid (cst σ2 a M F d ∧ σ2 a 5 = vlo F d M - vhi F d M ∧ σ2 a 6 = (n : Int) - d 0 ∧ σ2 a 7 = vlo F d M ∧ (∀ q, (q < a ∨ (a < q ∧ q ≤ a + 21) ∨ a + 177 ≤ q) → (q ≤ B ∨ B + 91 ≤ q) → σ2 q = σ q)) → (∀ j, j < i → σ2 (a + 153 + 3 * j) 3 = 0) → ∀ s : Int, s = i → q_T l K L R_He b_He_prepare 3 none 6 (fun r σ' => r = none ∧ (∃ (M : Nat) (F : Nat → Nat → Int) (d : Nat → Nat) (re : Nat), hok σ' a P n M F d re) ∧ (∀ i, i < 8 → σ' (a + 153 + 3 * i) 3 = 0) ∧ (∀ q, (q < a ∨ (a < q ∧ q ≤ a + 21) ∨ a + 177 ≤ q) → (q ≤ B ∨ B + 91 ≤ q) → σ' q = σ q)) 137 [some (.ref a), some (.ref B), some (vi s)] [] σ2 := by
      intro r
      induction r with
      | zero =>
        intro i hi σ2 j1 j2 s hs
        obtain ⟨j3, j4, j5, j6, j7⟩ := j1
        refine q_iload_n d_He_prepare_137 rfl ?_
        refine q_bipush d_He_prepare_138 (by decide) ?_
        refine q_icmp_ge (tgt := 159) (by omega) (by omega) d_He_prepare_140 (by decide) (fun c140 => ?_) (fun c140 => absurd c140 (by omega))
        refine q_aload_n d_He_prepare_159 rfl ?_
        refine q_aload_n d_He_prepare_160 rfl ?_
        refine q_callV (As := []) (c_He_reachOfRoots l K (n := d 0) (P := F 0) hLL (by omega) (j3.2.2 0 (by omega)).2.1 (j3.2.2 0 (by omega)).2.2 (hzq 0 (by omega)).2) w_cd_He_reachOfRoots w_ini_He w_ml_He_118 w_im_He_reachOfRoots w_se_He_reachOfRoots hH0 rfl hd_He_reachOfRoots rfl (Nat.le_of_ble_eq_true rfl) d_He_prepare_161 (by decide) (by decide) (fun v σ3 hp => ?_)
        obtain ⟨⟨re, rfl, hre, hre2⟩, hσ⟩ := hp
        rw [hσ]
        clear hσ σ3
        refine q_pi hH0 pc_He 8 (by decide) w_fl_He_121 rfl rfl rfl rfl (by rfl) d_He_prepare_164 ?_
        refine q_aload_n d_He_prepare_167 rfl ?_
        refine q_iconst d_He_prepare_168 rfl ?_
        refine q_pi hH0 pc_He 4 (by decide) w_fl_He_53 rfl rfl rfl rfl (by rfl) d_He_prepare_169 ?_
        have hfr : ∀ q, q ≠ a → q_up (q_up σ2 a 8 (re : Int)) a 4 1 q = σ2 q := fun q hq => by rw [q_up_a _ _ hq, q_up_a _ _ hq]
        exact q_vret rfl (⟨rfl, ⟨M, F, d, re, hg, j3.mv (by rw [hfr _ (by omega)]) (fun q h1 h2 => hfr q (by omega)), q_up_self _ _ _ _, by rw [q_up_k _ _ (by decide), q_up_k _ _ (by decide)]; exact j4, by rw [q_up_k _ _ (by decide), q_up_k _ _ (by decide)]; exact j5, by rw [q_up_k _ _ (by decide), q_up_k _ _ (by decide)]; exact j6, by rw [q_up_k _ _ (by decide), q_up_self], hre, hre2⟩, fun i hi => by rw [hfr _ (by omega)]; exact j2 i (by omega), fun q h1 h2 => by rw [hfr q (by omega)]; exact j7 q h1 h2⟩) d_He_prepare_172
      | succ r ih =>
        intro i hi σ2 j1 j2 s hs
        have j0 := j1
        obtain ⟨j3, j4, j5, j6, j7⟩ := j1
        have hro := hroA i (by omega)
        refine q_iload_n d_He_prepare_137 rfl ?_
        refine q_bipush d_He_prepare_138 (by decide) ?_
        refine q_icmp_ge (tgt := 159) (by omega) (by omega) d_He_prepare_140 (by decide) (fun c140 => absurd c140 (by omega)) (fun c140 => ?_)
        refine q_aload_n d_He_prepare_143 rfl ?_
        refine q_gr hH0 pc_He 3 (by decide) w_fl_He_35 rfl (by rfl) d_He_prepare_144 ?_
        refine q_iload_n d_He_prepare_147 rfl ?_
        refine q_aal (i) 6 (b := a + 153 + 3 * i) rfl hrg (by omega) (by omega) (by omega) (hrg2 _ (by omega)) d_He_prepare_148 ?_
        refine q_iconst d_He_prepare_149 rfl ?_
        refine q_pi hro.1 pc_Ro 3 (by decide) w_fl_He_115 rfl rfl rfl rfl (by rfl) d_He_prepare_150 ?_
        refine q_iinc_2 d_He_prepare_153 (by decide) rfl ?_
        refine q_goto (tgt := 137) d_He_prepare_156 (by decide) ?_
        refine ih (i + 1) (by omega) _ ⟨j3.mv (by rw [q_up_a _ _ (by omega)]) (fun q h1 h2 => q_up_a _ _ (by omega)), by rw [q_up_a _ _ (by omega)]; exact j4, by rw [q_up_a _ _ (by omega)]; exact j5, by rw [q_up_a _ _ (by omega)]; exact j6, fun q h1 h2 => by rw [q_up_a _ _ (by omega)]; exact j7 q h1 h2⟩ (fun j hj => ?_) _ (by omega)
        by_cases hji : j = i
        · subst hji; exact q_up_self _ _ _ _
        · rw [q_up_a _ _ (by omega)]; exact j2 j (by omega)
    refine q_aload_n d_He_prepare_107 rfl ?_
    refine q_aload_n d_He_prepare_108 rfl ?_
    refine q_gr hH0 pc_He 2 (by decide) w_fl_He_29 rfl (by rfl) d_He_prepare_109 ?_
    refine q_iconst d_He_prepare_112 rfl ?_
    refine q_callV (As := [vi (-1)]) (c_Ch_changesFar l K (w := -1) (a := a + 22) (h := 9) (n := M + 1) (dn := fun k => d k + 1) (P := F) hchL (by rw [f1.2.1]; rfl) (by omega) (Or.inr rfl) (fun k hk => (f1.2.2 k (by omega)).1) (fun k hk => by rw [(f1.2.2 k (by omega)).2.1]; show (d k : Int) = ((d k + 1 : Nat) : Int) - 1; omega) (fun k hk i hi => (f1.2.2 k (by omega)).2.2 i (Nat.le_of_lt_succ hi))) w_cd_Ch_changesFar w_ini_Ch w_ml_He_98 w_im_Ch_changesFar w_se_Ch_changesFar hc0 rfl hd_Ch_changesFar rfl (Nat.le_of_ble_eq_true rfl) d_He_prepare_113 (by decide) (by decide) (fun v σ2 hp => ?_)
    obtain ⟨rfl, hσ⟩ := hp
    rw [hσ]
    clear hσ σ2
    refine q_topi (show _ = vlo F d M from rfl) ?_
    refine q_pi hH0 pc_He 7 (by decide) w_fl_He_102 rfl rfl rfl rfl (by rfl) d_He_prepare_116 ?_
    refine q_aload_n d_He_prepare_119 rfl ?_
    refine q_aload_n d_He_prepare_120 rfl ?_
    refine q_gr hH0 pc_He 2 (by decide) w_fl_He_29 rfl (by rfl) d_He_prepare_121 ?_
    have fm : cst (q_up σ1 a 7 (vlo F d M)) a M F d := f1.mv (by rw [q_up_a _ _ (by omega)]) (fun q h1 h2 => q_up_a _ _ (by omega))
    refine q_callV (As := []) (c_Ch_realRoots l K (a := a + 22) (h := 9) (n := M + 1) (dn := fun k => d k + 1) (P := F) hchL (by rw [q_up_a _ _ (by omega), f1.2.1]; rfl) (by omega) (fun k hk => (f1.2.2 k (by omega)).1) (fun k hk => by rw [(fm.2.2 k (by omega)).2.1]; show (d k : Int) = ((d k + 1 : Nat) : Int) - 1; omega) (fun k hk i hi => (fm.2.2 k (by omega)).2.2 i (Nat.le_of_lt_succ hi))) w_cd_Ch_realRoots w_ini_Ch w_ml_He_105 w_im_Ch_realRoots w_se_Ch_realRoots hc0 rfl hd_Ch_realRoots rfl (Nat.le_of_ble_eq_true rfl) d_He_prepare_124 (by decide) (by decide) (fun v σ2 hp => ?_)
    obtain ⟨rfl, hσ⟩ := hp
    rw [hσ]
    clear hσ σ2
    refine q_topi (show _ = vlo F d M - vhi F d M from rfl) ?_
    refine q_bipush d_He_prepare_127 (by decide) ?_
    refine q_mmin (by omega) (by omega) w_ml_He_109 d_He_prepare_129 (by decide) (Nat.le_of_ble_eq_true rfl) ?_
    refine q_topi (show min (vlo F d M - vhi F d M) 8 = vlo F d M - vhi F d M from Int.min_eq_left (by omega)) ?_
    refine q_pi hH0 pc_He 5 (by decide) w_fl_He_112 rfl rfl rfl rfl (by rfl) d_He_prepare_132 ?_
    refine q_iconst d_He_prepare_135 rfl ?_
    refine q_ist_n_2 d_He_prepare_136 (by decide) rfl ?_
    exact loop 8 0 (by omega) _ ⟨fm.mv (by rw [q_up_a _ _ (by omega)]) (fun q h1 h2 => q_up_a _ _ (by omega)), q_up_self _ _ _ _, by rw [q_up_k _ _ (by decide), q_up_k _ _ (by decide)]; exact f3, by rw [q_up_k _ _ (by decide), q_up_self], fun q h1 h2 => by rw [q_up_a _ _ (by omega), q_up_a _ _ (by omega)]; exact f4 q h1 h2⟩ (fun j hj => by omega) 0 rfl
  refine q_aload_n d_He_prepare_0 rfl ?_
  refine q_gi hH0 pc_He 4 (by decide) w_fl_He_53 rfl (by rfl) d_He_prepare_1 ?_
  refine q_topi hrd ?_
  refine q_if_eq (tgt := 8) (by omega) d_He_prepare_4 (by decide) (fun c4 => ?_) (fun c4 => absurd c4 (by omega))
  refine q_aload_n d_He_prepare_8 rfl ?_
  refine q_gr hH0 pc_He 2 (by decide) w_fl_He_29 rfl (by rfl) d_He_prepare_9 ?_
  refine q_gr hc0 pc_Ch 0 (by decide) w_fl_He_57 rfl (by rfl) d_He_prepare_12 ?_
  refine q_iconst d_He_prepare_15 rfl ?_
  refine q_aal (0) 5 (b := a + 24) rfl hg1 (by omega) (by omega) (by omega) (hg2 0 (by decide)) d_He_prepare_16 ?_
  refine q_aload_n d_He_prepare_17 rfl ?_
  refine q_gr hH0 pc_He 1 (by decide) w_fl_He_20 rfl (by rfl) d_He_prepare_18 ?_
  refine q_callV (As := [.ref (a + 2)]) (c_Py_copy l K (n := n + 1) (P := P) hp0 hps (by decide) (by omega) (by omega) (by omega) (by rw [hd]; omega) (fun k hk => hP k (by omega)) (fun k _ => lim_up (hPl k) (by decide))) w_cd_Py_copy w_ini_Py w_ml_He_61 w_im_Py_copy w_se_Py_copy hp0.1 rfl hd_Py_copy rfl (Nat.le_of_ble_eq_true rfl) d_He_prepare_21 (by decide) (by decide) (fun v σ1 hp => ?_)
  obtain ⟨rfl, k1, k2, k3⟩ := hp
  rw [top_lead hl] at k1
  refine q_aload_n d_He_prepare_24 rfl ?_
  refine q_gr hH0 pc_He 2 (by decide) w_fl_He_29 rfl (by rfl) d_He_prepare_25 ?_
  refine q_callV (As := []) (c_Ch_deriveHead l K (a := a + 22) (h := 9) (n := n + 1) (P := P) hchL (by omega) (by omega) (by omega) hl k1 k2 (fun k _ => lim_up (hPl k) (by decide))) w_cd_Ch_deriveHead w_ini_Ch w_ml_He_65 w_im_Ch_deriveHead w_se_Ch_deriveHead hc0 rfl hd_Ch_deriveHead rfl (Nat.le_of_ble_eq_true rfl) d_He_prepare_28 (by decide) (by decide) (fun v σ2 hp => ?_)
  obtain ⟨rfl, k4, k5, k6⟩ := hp
  rw [Nat.add_sub_cancel] at k4 k5
  rw [c91] at k4 k5 k6
  rcases Nat.eq_zero_or_pos n with hn0 | hn1
  · subst hn0
    refine q_aload_n d_He_prepare_31 rfl ?_
    refine q_gr hH0 pc_He 2 (by decide) w_fl_He_29 rfl (by rfl) d_He_prepare_32 ?_
    refine q_aload_n d_He_prepare_35 rfl ?_
    refine q_callV (As := [.ref B]) (c_Ch_build0 l K (ch := a + 22) (h := 9) hchL hbL (by omega) k4) w_cd_Ch_build w_ini_Ch w_ml_He_68 w_im_Ch_build w_se_Ch_build hc0 rfl hd_Ch_build rfl (Nat.le_of_ble_eq_true rfl) d_He_prepare_36 (by decide) (by decide) (fun v σ3 hp => ?_)
    obtain ⟨rfl, k7, k8⟩ := hp
    have k9 : σ3 (a + 24) 1 = 0 := by rw [k8 _ (by omega) (by omega), k6 _ (by omega), k1]; rfl
    refine q_aload_n d_He_prepare_39 rfl ?_
    refine q_iconst d_He_prepare_40 rfl ?_
    refine q_aload_n d_He_prepare_41 rfl ?_
    refine q_gr hH0 pc_He 2 (by decide) w_fl_He_29 rfl (by rfl) d_He_prepare_42 ?_
    refine q_callV (As := []) (c_Ch_last l K (n := 1) hchL k7 (by omega)) w_cd_Ch_last w_ini_Ch w_ml_He_72 w_im_Ch_last w_se_Ch_last hc0 rfl hd_Ch_last rfl (Nat.le_of_ble_eq_true rfl) d_He_prepare_45 (by decide) (by decide) (fun v σ9 hp => ?_)
    obtain ⟨rfl, hσ⟩ := hp
    rw [hσ]
    clear hσ σ9
    refine q_gi hp0.1 pc_Py 1 (by decide) w_fl_He_76 rfl (by rfl) d_He_prepare_48 ?_
    refine q_topi k9 ?_
    refine q_mmax (by omega) (by omega) w_ml_He_80 d_He_prepare_51 (by decide) (Nat.le_of_ble_eq_true rfl) ?_
    refine q_pi hH0 pc_He 6 (by decide) w_fl_He_86 rfl rfl rfl rfl (by rfl) d_He_prepare_54 ?_
    refine q_aload_n d_He_prepare_57 rfl ?_
    refine q_gi hH0 pc_He 6 (by decide) w_fl_He_86 rfl (by rfl) d_He_prepare_58 ?_
    refine q_topi (q_up_self _ _ _ _) ?_
    refine q_if_le (tgt := 107) (by omega) d_He_prepare_61 (by decide) (fun c61 => ?_) (fun c61 => absurd c61 (by omega))
    refine tail _ 0 (fun _ => P) (fun _ => 0) ⟨hz, hl, hn, hPb, Or.inl ⟨rfl, rfl, rfl, rfl⟩⟩ ⟨by omega, by rw [q_up_a _ _ (by omega), k7]; rfl, fun k hk => ?_⟩ (q_up_self _ _ _ _) (fun q h1 h2 => by rw [q_up_a _ _ (by omega), k8 q (by omega) (by omega), k6 q (by omega), k3 q (by omega)])
    obtain rfl : k = 0 := by omega
    refine ⟨by decide, by rw [q_up_a _ _ (by show a + 24 ≠ a; omega)]; exact k9, fun c hc => ?_⟩
    obtain rfl : c = 0 := Nat.le_zero.1 hc
    exact (k2 0 (by omega)).mv (by show _ = σ1 (a + 26); rw [q_up_a _ _ (by omega), k8 _ (by omega) (by omega), k6 _ (by omega)]) (by show _ = σ1 (a + 26 + 1); rw [q_up_a _ _ (by omega), k8 _ (by omega) (by omega), k6 _ (by omega)])
  · have hdp : ∀ k, dP P k = P (k + 1) * ((k : Int) + 1) := fun k => Int.mul_comm _ _
    have hl1 : P (n - 1 + 1) * (((n - 1 : Nat) : Int) + 1) ≠ 0 := by rw [show n - 1 + 1 = n by omega]; exact Int.mul_ne_zero hl (by omega)
    have ht1 : top (fun k => P (k + 1) * ((k : Int) + 1)) n = n := by have := top_lead (P := fun k => P (k + 1) * ((k : Int) + 1)) hl1; rw [show n - 1 + 1 = n by omega] at this; exact this
    rw [ht1] at k4
    have b0 : l1 P (n + 1) ≤ 2 ^ 35 := by
      have h1 := l1_le (n := n + 1) (fun k _ => hPb k)
      have h2 : (n + 1) * 2147483648 ≤ 9 * 2147483648 := Nat.mul_le_mul_right _ (by omega)
      have : (2 : Nat) ^ 35 = 34359738368 := by decide
      omega
    refine q_aload_n d_He_prepare_31 rfl ?_
    refine q_gr hH0 pc_He 2 (by decide) w_fl_He_29 rfl (by rfl) d_He_prepare_32 ?_
    refine q_aload_n d_He_prepare_35 rfl ?_
    refine q_callV (As := [.ref B]) (c_Ch_build l K (ch := a + 22) (h := 9) (f := 35) (g := 38) (n := n) (m := n - 1) (F0 := P) (F1 := dP P) hchL hbL (by omega) (by omega) (by omega) (by omega) (by omega) (by rw [show a + 22 + chO 9 0 = a + 24 from rfl, k6 _ (by omega), k1]; omega) (by rw [c91, k4]; omega) (fun k hk => (k2 k (by omega)).mv (k6 _ (by omega)) (k6 _ (by omega))) (fun k hk => by rw [hdp]; exact k5 k (by omega)) hz (fun c hc => by rw [hdp, hz _ (by omega), Int.zero_mul]) hl (by rw [hdp]; exact hl1) b0 (by rw [show n - 1 + 1 = n by omega]; exact l1_dP8 hn b0) (okc_0 n (by omega) hn1)) w_cd_Ch_build w_ini_Ch w_ml_He_68 w_im_Ch_build w_se_Ch_build hc0 rfl hd_Ch_build rfl (Nat.le_of_ble_eq_true rfl) d_He_prepare_36 (by decide) (by decide) (fun v σ3 hp => ?_)
    obtain ⟨rfl, M, F, d, e0, e1, e2, e3, hM1, hM9, hcs, k7, k8, k9⟩ := hp
    have hcN := cin_chN hcs (by omega) (by omega) hM9
    have hF1 : ∀ c, F 1 c = dP (F 0) c := fun c => by rw [e1, e0]
    have hd01 : d 0 = d 1 + 1 := by omega
    have hMe := chO_end (h := 9) (k := M) (by omega)
    have hMg := chO_ge (h := 9) (k := M)
    have hpM := hpl M (by omega)
    have hMN := hcN M (Nat.le_refl _)
    have hM9' : chN 9 M ≤ 9 := by unfold chN; split <;> omega
    refine q_aload_n d_He_prepare_39 rfl ?_
    refine q_iconst d_He_prepare_40 rfl ?_
    refine q_aload_n d_He_prepare_41 rfl ?_
    refine q_gr hH0 pc_He 2 (by decide) w_fl_He_29 rfl (by rfl) d_He_prepare_42 ?_
    refine q_callV (As := []) (c_Ch_last l K (n := M + 1) hchL k7 (by omega)) w_cd_Ch_last w_ini_Ch w_ml_He_72 w_im_Ch_last w_se_Ch_last hc0 rfl hd_Ch_last rfl (Nat.le_of_ble_eq_true rfl) d_He_prepare_45 (by decide) (by decide) (fun v σ9 hp => ?_)
    obtain ⟨rfl, hσ⟩ := hp
    rw [hσ]
    clear hσ σ9
    refine q_gi hpM.1 pc_Py 1 (by decide) w_fl_He_76 rfl (by rfl) d_He_prepare_48 ?_
    refine q_topi (k8 M (Nat.le_refl _)).1 ?_
    refine q_mmax (by omega) (by omega) w_ml_He_80 d_He_prepare_51 (by decide) (Nat.le_of_ble_eq_true rfl) ?_
    refine q_topi (show max 0 (d M : Int) = (d M : Int) by omega) ?_
    skip
    refine q_pi hH0 pc_He 6 (by decide) w_fl_He_86 rfl rfl rfl rfl (by rfl) d_He_prepare_54 ?_
    refine q_aload_n d_He_prepare_57 rfl ?_
    refine q_gi hH0 pc_He 6 (by decide) w_fl_He_86 rfl (by rfl) d_He_prepare_58 ?_
    refine q_topi (q_up_self _ _ _ _) ?_
    have fr4 : ∀ q, (q < a ∨ (a < q ∧ q ≤ a + 21) ∨ a + 177 ≤ q) → (q ≤ B ∨ B + 91 ≤ q) → (q_up σ3 a 6 (d M : Int)) q = σ q := fun q h1 h2 => by rw [q_up_a _ _ (by omega), k9 q (by omega) (by omega), k6 q (by omega), k3 q (by omega)]
    have cs4 : cst (q_up σ3 a 6 (d M : Int)) a M F d := ⟨hM9, by rw [q_up_a _ _ (by omega)]; exact k7, fun k hk => ⟨hcN k hk, by have p2 := chO_ge (h := 9) (k := k); rw [q_up_a _ _ (by omega)]; exact (k8 k hk).1, fun c hc => by have p2 := chO_ge (h := 9) (k := k); exact ((k8 k hk).2 c hc).mv (q_up_a _ _ (by omega)) (q_up_a _ _ (by omega))⟩⟩
    refine q_if_le (tgt := 107) (by omega) d_He_prepare_61 (by decide) (fun cs => ?_) (fun cs => ?_)
    · have hdM : d M = 0 := by omega
      have hfc := prep_a hcs hM1 hF1 hd01 hdM
      exact tail _ M F d ⟨hz, hl, hn, hPb, Or.inr ⟨hn1, hM1, ⟨35, 38, (fbm_r _).1, by have := (fbm_r (d 0)).1; omega, hcs⟩, hdM, hF1, hd01, by rw [e0, e2] at hfc ⊢; exact hfc⟩⟩ cs4 (by rw [q_up_self]; omega) fr4
    · refine q_aload_n d_He_prepare_64 rfl ?_
      refine q_aload_n d_He_prepare_65 rfl ?_
      refine q_gr hH0 pc_He 2 (by decide) w_fl_He_29 rfl (by rfl) d_He_prepare_66 ?_
      refine q_callV (As := []) (c_Ch_last l K (n := M + 1) hchL cs4.2.1 (by omega)) w_cd_Ch_last w_ini_Ch w_ml_He_72 w_im_Ch_last w_se_Ch_last hc0 rfl hd_Ch_last rfl (Nat.le_of_ble_eq_true rfl) d_He_prepare_69 (by decide) (by decide) (fun v σ9 hp => ?_)
      obtain ⟨rfl, hσ⟩ := hp
      rw [hσ]
      clear hσ σ9
      obtain ⟨hDz, hDl, hDle, Q, hPQ, hfc⟩ := prep_b hcs hM1 hF1 hd01 (D := fun c => (F M c).tdiv (gn (F M) (d M + 1))) (fun c => rfl)
      rw [e0, e2] at hfc
      rw [e2] at hDle hPQ
      have hzM : ∀ k, k ≤ M → (∀ c, d k < c → F k c = 0) ∧ F k (d k) ≠ 0 := by obtain ⟨sc, ht, hc, -⟩ := hcs; exact hc.1
      have hFb : ∀ c, (F M c).natAbs ≤ 2 ^ 1480 := by
        intro c
        obtain ⟨sc, ht, hc, -⟩ := hcs
        have hb := (cin_bits hc hM1).2.1 c
        refine Nat.le_trans hb (Nat.pow_le_pow_right (by omega) ?_)
        split
        · omega
        · refine Nat.le_trans (bt_le (Nat.zero_le _)) ?_
          unfold bt
          have x1 : (d 1 - 0) * 35 ≤ 8 * 35 := Nat.mul_le_mul_right _ (by omega)
          have x2 : (d 0 - 0) * 38 ≤ 8 * 38 := Nat.mul_le_mul_right _ (by omega)
          omega
      have hm1 : d M < n := by
        obtain ⟨sc, ht, hc, -⟩ := hcs
        have := cin_deg hc M hM1 (Nat.le_refl _)
        omega
      have hQl := fcp_l1 hfc hn hPb hz
      have hQ52 : ∀ c, (Q c).natAbs ≤ 2 ^ 52 := fun c => Nat.le_trans (l1_all hfc.2.1 hQl c) (Nat.pow_le_pow_right (by omega) (fbm_r _).2)
      refine q_callV (As := [.ref (a + 22 + chO 9 M)]) (c_Be_setDivisor l K _ (n := d M + 1) (P := F M) hbL hpM (by omega) (by omega) (by omega) (by omega) (by rw [(cs4.2.2 M (Nat.le_refl _)).2.1]; omega) (fun k hk => (cs4.2.2 M (Nat.le_refl _)).2.2 k (by omega)) (hzM M (Nat.le_refl _)).2 (fun k _ => lim_ofI (x := 1480) (hFb k))) w_cd_Be_setDivisor w_ini_Be w_ml_He_89 w_im_Be_setDivisor w_se_Be_setDivisor hb0 rfl hd_Be_setDivisor rfl (Nat.le_of_ble_eq_true rfl) d_He_prepare_72 (by decide) (by decide) (fun v σ4 hp => ?_)
      obtain ⟨rfl, k10, k11, k12⟩ := hp
      have fr5 : ∀ q, (q < a ∨ (a ≤ q ∧ q ≤ a + 21) ∨ a + 177 ≤ q) → (q ≤ B ∨ B + 91 ≤ q) → σ4 q = (q_up σ3 a 6 (d M : Int)) q := fun q h1 h2 => k12 q (by omega)
      refine q_aload_n d_He_prepare_75 rfl ?_
      refine q_aload_n d_He_prepare_76 rfl ?_
      refine q_gr hH0 pc_He 1 (by decide) w_fl_He_20 rfl (by rfl) d_He_prepare_77 ?_
      refine q_aload_n d_He_prepare_80 rfl ?_
      refine q_gr hH0 pc_He 2 (by decide) w_fl_He_29 rfl (by rfl) d_He_prepare_81 ?_
      refine q_gr hc0 pc_Ch 0 (by decide) w_fl_He_57 rfl (by rfl) d_He_prepare_84 ?_
      refine q_iconst d_He_prepare_87 rfl ?_
      refine q_aal (0) 5 (b := a + 24) rfl hg1 (by omega) (by omega) (by omega) (hg2 0 (by decide)) d_He_prepare_88 ?_
      refine q_callV (As := [.ref (a + 2), .ref (a + 24)]) (c_Be_divideByDivisor l K (a := n) (b := d M) (P := P) (D := fun c => (F M c).tdiv (gn (F M) (d M + 1))) (Q := Q) hbL hps hp0 (by omega) (by omega) (by omega) (by omega) (by omega) (by omega) (by omega) (by omega) (by rw [fr5 _ (by omega) (by omega), fr4 _ (by omega) (by omega)]; exact hd) (by rw [k10]; omega) (fun k hk => (hP k hk).mv (by rw [fr5 _ (by omega) (by omega), fr4 _ (by omega) (by omega)]) (by rw [fr5 _ (by omega) (by omega), fr4 _ (by omega) (by omega)])) (fun k hk => k11 k (by omega)) hDl hDz (fun c _ => by rw [← e0]; exact hPQ c) (fun k _ => lim_up (lim_ofI (hQ52 k)) (by decide)) (fun k _ => lim_ofI (x := 1480) (Nat.le_trans (tdiv_le _ _) (hFb k))) (fun j hj c _ => lim_up (lim_ofI (x := 1540) (Nat.le_trans (qs_bd hQ52 (fun k => Nat.le_trans (tdiv_le _ _) (hFb k)) c j) (by rw [← Nat.pow_add]; exact Nat.le_trans (Nat.mul_le_mul_right _ (show j ≤ 2 ^ 4 by omega)) (by rw [← Nat.pow_add]; exact Nat.pow_le_pow_right (by omega) (by omega))))) (by decide))) w_cd_Be_divideByDivisor w_ini_Be w_ml_He_94 w_im_Be_divideByDivisor w_se_Be_divideByDivisor hb0 rfl hd_Be_divideByDivisor rfl (Nat.le_of_ble_eq_true rfl) d_He_prepare_89 (by decide) (by decide) (fun v σ5 hp => ?_)
      obtain ⟨rfl, k13, k14, k15⟩ := hp
      have hQn : Q (n - d M) ≠ 0 := hfc.2.2.1
      rw [top_lead hQn] at k13
      have fr6 : ∀ q, (q < a ∨ (a ≤ q ∧ q ≤ a + 21) ∨ a + 177 ≤ q) → (q ≤ B ∨ B + 91 ≤ q) → σ5 q = σ4 q := fun q h1 h2 => k15 q (by omega) (by omega) (by omega) (by omega) (by omega)
      refine q_aload_n d_He_prepare_92 rfl ?_
      refine q_gr hH0 pc_He 2 (by decide) w_fl_He_29 rfl (by rfl) d_He_prepare_93 ?_
      refine q_callV (As := []) (c_Ch_deriveHead l K (a := a + 22) (h := 9) (n := n - d M + 1) (P := Q) hchL (by omega) (by omega) (by omega) hQn k13 (fun k hk => k14 k (by omega)) (fun k _ => lim_up (lim_ofI (hQ52 k)) (by decide))) w_cd_Ch_deriveHead w_ini_Ch w_ml_He_65 w_im_Ch_deriveHead w_se_Ch_deriveHead hc0 rfl hd_Ch_deriveHead rfl (Nat.le_of_ble_eq_true rfl) d_He_prepare_96 (by decide) (by decide) (fun v σ6 hp => ?_)
      obtain ⟨rfl, k16, k17, k18⟩ := hp
      rw [Nat.add_sub_cancel] at k16 k17
      rw [c91] at k16 k17 k18
      have hdq : ∀ k, dP Q k = Q (k + 1) * ((k : Int) + 1) := fun k => Int.mul_comm _ _
      have hl2 : Q (n - d M - 1 + 1) * (((n - d M - 1 : Nat) : Int) + 1) ≠ 0 := by rw [show n - d M - 1 + 1 = n - d M by omega]; exact Int.mul_ne_zero hQn (by omega)
      have ht2 : top (fun k => Q (k + 1) * ((k : Int) + 1)) (n - d M) = n - d M := by have := top_lead (P := fun k => Q (k + 1) * ((k : Int) + 1)) hl2; rw [show n - d M - 1 + 1 = n - d M by omega] at this; exact this
      rw [ht2] at k16
      refine q_aload_n d_He_prepare_99 rfl ?_
      refine q_gr hH0 pc_He 2 (by decide) w_fl_He_29 rfl (by rfl) d_He_prepare_100 ?_
      refine q_aload_n d_He_prepare_103 rfl ?_
      refine q_callV (As := [.ref B]) (c_Ch_build l K (ch := a + 22) (h := 9) (f := fbm (n - d M)) (g := fbm (n - d M) + 3) (n := n - d M) (m := n - d M - 1) (F0 := Q) (F1 := dP Q) hchL hbL (by omega) (by omega) (by omega) (by omega) (by omega) (by rw [show a + 22 + chO 9 0 = a + 24 from rfl, k18 _ (by omega), k13]; omega) (by rw [c91, k16]; omega) (fun k hk => (k14 k (by omega)).mv (k18 _ (by omega)) (k18 _ (by omega))) (fun k hk => by rw [hdq]; exact k17 k (by omega)) hfc.2.1 (fun c hc => by rw [hdq, hfc.2.1 _ (by omega), Int.zero_mul]) hQn (by rw [hdq]; exact hl2) hQl (by rw [show n - d M - 1 + 1 = n - d M by omega]; exact l1_dP8 (by omega) hQl) (okc_1 (n - d M) (by omega) (by omega))) w_cd_Ch_build w_ini_Ch w_ml_He_68 w_im_Ch_build w_se_Ch_build hc0 rfl hd_Ch_build rfl (Nat.le_of_ble_eq_true rfl) d_He_prepare_104 (by decide) (by decide) (fun v σ7 hp => ?_)
      obtain ⟨rfl, M', F', d', g0, g1, g2, g3, hM1', hM9', hcs', k19, k20, k21⟩ := hp
      have hF1' : ∀ c, F' 1 c = dP (F' 0) c := fun c => by rw [g1, g0]
      have hd01' : d' 0 = d' 1 + 1 := by omega
      have hdM' := prep_c hfc hcs' hM1' g0 hF1' g2 hd01'
      have hcN' := cin_chN hcs' (by omega) (by omega) hM9'
      exact tail _ M' F' d' ⟨hz, hl, hn, hPb, Or.inr ⟨hn1, hM1', ⟨fbm (n - d M), fbm (n - d M) + 3, by rw [g2]; exact Nat.le_refl _, by rw [g2]; exact Nat.le_refl _, hcs'⟩, hdM', hF1', hd01', by rw [g0, g2]; exact hfc⟩⟩ ⟨hM9', k19, fun k hk => ⟨hcN' k hk, (k20 k hk).1, (k20 k hk).2⟩⟩ (by rw [k21 a (by omega) (by omega), k18 a (by omega), fr6 a (by omega) (by omega), fr5 a (by omega) (by omega), q_up_self]; omega) (fun q h1 h2 => by rw [k21 q (by omega) (by omega), k18 q (by omega), fr6 q (by omega) (by omega), fr5 q (by omega) (by omega)]; exact fr4 q h1 h2)
