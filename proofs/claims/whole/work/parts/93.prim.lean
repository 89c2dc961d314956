/-! THE REFERENCE: derive, primitive -/
set_option maxHeartbeats 4000000 in
set_option maxRecDepth 100000 in
theorem c_Mo_derive (l : Launch) (K : pw_K) {L : q_L} {σ : q_S} {m p i n u : Nat} {P : Nat → Int} (hL : mL L m) (hp : p < 10) (hi : i < 10) (hpi : p ≠ i) (hn : n ≤ 9) (hd : σ (m + 4) i = (n : Int) - 1) (hP : ∀ k, k < n → rV σ m (9 * i + k) (P k)) (hb : ∀ k, k < n → ((P k).natAbs : Int) < 65536 ^ u) (hu : u + 1 ≤ 1024) : q_C l K L y_Mo_derive b_Mo_derive 4 none 3 [.ref m, vi p, vi i] σ (fun v σ' => v = none ∧ σ' (m + 4) p = ((n - 1 : Nat) : Int) - 1 ∧ (∀ k, k < n - 1 → rV σ' m (9 * p + k) (P (k + 1) * ((k : Int) + 1))) ∧ (∀ r, r ≠ 96 → (r < 9 * p ∨ 9 * p + 8 ≤ r) → rE σ σ' m r) ∧ (∀ j, j ≠ p → σ' (m + 4) j = σ (m + 4) j) ∧ (∀ q, q ≠ m + 1 → q ≠ m + 2 → q ≠ m + 3 → q ≠ m + 4 → q ≠ m + 9 → σ' q = σ q)) := by
  obtain ⟨hM0, hM1, hM2, hM3, hM4, hM5, hM6, hM7, hM8, hM9⟩ := hL
  refine q_start [some (.ref m), some (vi p), some (vi i), none] (by decide) (Nat.le_of_ble_eq_true rfl) (fun q h => h) ?_
  have loop : ∀ (r k : Nat), k + r = n - 1 → ∀ (σ1 : q_S), (∀ q, q ≠ m + 1 → q ≠ m + 2 → q ≠ m + 3 → q ≠ m + 9 → σ1 q = σ q) → (∀ v, v < k → rV σ1 m (9 * p + v) (P (v + 1) * ((v : Int) + 1))) → (∀ r, r ≠ 96 → (r < 9 * p ∨ 9 * p + k ≤ r) → rE σ σ1 m r) → ∀ t : Int, t = (k : Int) + 1 → q_T l K L R_Mo b_Mo_derive 4 none 3 (fun v σ' => v = none ∧ σ' (m + 4) p = ((n - 1 : Nat) : Int) - 1 ∧ (∀ k, k < n - 1 → rV σ' m (9 * p + k) (P (k + 1) * ((k : Int) + 1))) ∧ (∀ r, r ≠ 96 → (r < 9 * p ∨ 9 * p + 8 ≤ r) → rE σ σ' m r) ∧ (∀ j, j ≠ p → σ' (m + 4) j = σ (m + 4) j) ∧ (∀ q, q ≠ m + 1 → q ≠ m + 2 → q ≠ m + 3 → q ≠ m + 4 → q ≠ m + 9 → σ' q = σ q)) 2 [some (.ref m), some (vi p), some (vi i), some (vi t)] [] σ1 := by
    intro r
    induction r with
    | zero =>
      intro k hk σ1 f1 f2 f3 t ht
      refine q_iload_n d_Mo_derive_2 rfl ?_
      refine q_aload_n d_Mo_derive_3 rfl ?_
      refine q_gr (by assumption) pc_Mo 4 (by decide) w_fl_Mo_20 rfl (by rfl) d_Mo_derive_4 ?_
      refine q_iload_n d_Mo_derive_7 rfl ?_
      refine q_ial (i) (by assumption) (by omega) (by omega) (by omega) d_Mo_derive_8 ?_
      refine q_topi (show _ = (n : Int) - 1 by rw [f1 _ (by omega) (by omega) (by omega) (by omega)]; exact hd) ?_
      refine q_icmp_gt (tgt := 46) (by omega) (by omega) d_Mo_derive_9 (by decide) (fun c9 => ?_) (fun c9 => absurd c9 (by omega))
      refine q_aload_n d_Mo_derive_46 rfl ?_
      refine q_gr (by assumption) pc_Mo 4 (by decide) w_fl_Mo_20 rfl (by rfl) d_Mo_derive_47 ?_
      refine q_iload_n d_Mo_derive_50 rfl ?_
      refine q_aload_n d_Mo_derive_51 rfl ?_
      refine q_gr (by assumption) pc_Mo 4 (by decide) w_fl_Mo_20 rfl (by rfl) d_Mo_derive_52 ?_
      refine q_iload_n d_Mo_derive_55 rfl ?_
      refine q_ial (i) (by assumption) (by omega) (by omega) (by omega) d_Mo_derive_56 ?_
      refine q_topi (show _ = (n : Int) - 1 by rw [f1 _ (by omega) (by omega) (by omega) (by omega)]; exact hd) ?_
      refine q_iconst d_Mo_derive_57 rfl ?_
      refine q_isub d_Mo_derive_58 ?_
      refine q_ias (p) (by assumption) (by omega) (by omega) (by omega) d_Mo_derive_59 ?_
      refine q_aload_n d_Mo_derive_60 rfl ?_
      refine q_gr (by assumption) pc_Mo 4 (by decide) w_fl_Mo_20 rfl (by rfl) d_Mo_derive_61 ?_
      refine q_iload_n d_Mo_derive_64 rfl ?_
      refine q_ial (p) (by assumption) (by omega) (by omega) (by omega) d_Mo_derive_65 ?_
      refine q_topi (show _ = (n : Int) - 1 - 1 from q_up_self _ _ _ _) ?_
      refine q_if_ge (tgt := 76) (by omega) d_Mo_derive_66 (by decide) (fun cz => ?_) (fun cz => ?_)
      · exact q_vret rfl (⟨rfl, by rw [q_up_self]; omega, fun u hu => (f2 u (by omega)).mv ⟨fun v hv => mr_o _ _ (by omega), by rw [q_up_a _ _ (by omega)], by rw [q_up_a _ _ (by omega)]⟩, fun r h1 h2 => (f3 r h1 (by omega)).trans ⟨fun v hv => mr_o _ _ (by omega), by rw [q_up_a _ _ (by omega)], by rw [q_up_a _ _ (by omega)]⟩, fun u hu => by rw [q_up_k _ _ hu, f1 _ (by omega) (by omega) (by omega) (by omega)], fun q h1 h2 h3 h4 h5 => by rw [q_up_a _ _ h4]; exact f1 q h1 h2 h3 h5⟩) d_Mo_derive_76
      · refine q_aload_n d_Mo_derive_69 rfl ?_
        refine q_gr (by assumption) pc_Mo 4 (by decide) w_fl_Mo_20 rfl (by rfl) d_Mo_derive_70 ?_
        refine q_iload_n d_Mo_derive_73 rfl ?_
        refine q_iconst d_Mo_derive_74 rfl ?_
        refine q_ias (p) (by assumption) (by omega) (by omega) (by omega) d_Mo_derive_75 ?_
        exact q_vret rfl (⟨rfl, by rw [q_up_self]; omega, fun u hu => (f2 u (by omega)).mv ⟨fun v hv => by rw [mr_o _ _ (by omega)]; exact mr_o _ _ (by omega), by rw [q_up_a _ _ (by omega), q_up_a _ _ (by omega)], by rw [q_up_a _ _ (by omega), q_up_a _ _ (by omega)]⟩, fun r h1 h2 => (f3 r h1 (by omega)).trans ⟨fun v hv => by rw [mr_o _ _ (by omega)]; exact mr_o _ _ (by omega), by rw [q_up_a _ _ (by omega), q_up_a _ _ (by omega)], by rw [q_up_a _ _ (by omega), q_up_a _ _ (by omega)]⟩, fun u hu => by rw [q_up_k _ _ hu, q_up_k _ _ hu, f1 _ (by omega) (by omega) (by omega) (by omega)], fun q h1 h2 h3 h4 h5 => by rw [q_up_a _ _ h4, q_up_a _ _ h4]; exact f1 q h1 h2 h3 h5⟩) d_Mo_derive_76
    | succ r ih =>
      intro k hk σ1 f1 f2 f3 t ht
      refine q_iload_n d_Mo_derive_2 rfl ?_
      refine q_aload_n d_Mo_derive_3 rfl ?_
      refine q_gr (by assumption) pc_Mo 4 (by decide) w_fl_Mo_20 rfl (by rfl) d_Mo_derive_4 ?_
      refine q_iload_n d_Mo_derive_7 rfl ?_
      refine q_ial (i) (by assumption) (by omega) (by omega) (by omega) d_Mo_derive_8 ?_
      refine q_topi (show _ = (n : Int) - 1 by rw [f1 _ (by omega) (by omega) (by omega) (by omega)]; exact hd) ?_
      refine q_icmp_gt (tgt := 46) (by omega) (by omega) d_Mo_derive_9 (by decide) (fun c9 => absurd c9 (by omega)) (fun c9 => ?_)
      refine q_aload_n d_Mo_derive_12 rfl ?_
      refine q_bipush d_Mo_derive_13 (by decide) ?_
      refine q_iload_n d_Mo_derive_15 rfl ?_
      refine q_i2l (by omega) d_Mo_derive_16 ?_
      refine q_callV (As := [vi 96, vl t]) (q_Mo_set l K σ1 (r := 96) ⟨hM0, hM1, hM2, hM3, hM4, hM5, hM6, hM7, hM8, hM9⟩ (by decide) (by omega)) w_cd_Mo_set w_ini_Mo w_ml_Mo_72 w_im_Mo_set w_se_Mo_set (by assumption) rfl hd_Mo_set rfl (Nat.le_of_ble_eq_true rfl) d_Mo_derive_17 (by decide) (by decide) (fun v σ2 hp => ?_)
      obtain ⟨rfl, k1, k2, k3, k4⟩ := hp
      refine q_aload_n d_Mo_derive_20 rfl ?_
      refine q_bipush d_Mo_derive_21 (by decide) ?_
      refine q_iload_n d_Mo_derive_23 rfl ?_
      refine q_imul d_Mo_derive_24 ?_
      refine q_iload_n d_Mo_derive_25 rfl ?_
      refine q_iadd d_Mo_derive_26 ?_
      refine q_iconst d_Mo_derive_27 rfl ?_
      refine q_isub d_Mo_derive_28 ?_
      refine q_topi (show _ = ((9 * p + k : Nat) : Int) by omega) ?_
      refine q_bipush d_Mo_derive_29 (by decide) ?_
      refine q_iload_n d_Mo_derive_31 rfl ?_
      refine q_imul d_Mo_derive_32 ?_
      refine q_iload_n d_Mo_derive_33 rfl ?_
      refine q_iadd d_Mo_derive_34 ?_
      refine q_topi (show _ = ((9 * i + (k + 1) : Nat) : Int) by omega) ?_
      refine q_bipush d_Mo_derive_35 (by decide) ?_
      refine q_callV (As := [vi ((9 * p + k : Nat) : Int), vi ((9 * i + (k + 1) : Nat) : Int), vi 96]) (c_Mo_product l K (r := 9 * p + k) (i := 9 * i + (k + 1)) (j := 96) (u := u) (v := 1) (x := P (k + 1)) (y := t) ⟨hM0, hM1, hM2, hM3, hM4, hM5, hM6, hM7, hM8, hM9⟩ (by omega) (by omega) (by decide) (((hP (k + 1) (by omega)).mv (f3 _ (by omega) (by omega))).mv (k4 _ (by omega))) k1 (hb (k + 1) (by omega)) (by rw [ht]; omega) (by omega)) w_cd_Mo_product w_ini_Mo w_ml_Mo_76 w_im_Mo_product w_se_Mo_product (by assumption) rfl hd_Mo_product rfl (Nat.le_of_ble_eq_true rfl) d_Mo_derive_37 (by decide) (by decide) (fun v σ3 hp => ?_)
      obtain ⟨rfl, k5, k6, k7⟩ := hp
      rw [ht] at k5
      refine q_iinc_3 d_Mo_derive_40 (by decide) rfl ?_
      refine q_goto (tgt := 2) d_Mo_derive_43 (by decide) ?_
      refine ih (k + 1) (by omega) σ3 (fun q h1 h2 h3 h4 => ?_) (fun v hv => ?_) (fun r h1 h2 => ?_) _ (by omega)
      · rw [k6 q h1 h2 h3 h4, k2 q h1 h2 h3 h4]; exact f1 q h1 h2 h3 h4
      · exact if ev : v = k then by subst ev; exact k5 else ((f2 v (by omega)).mv (k4 _ (by omega))).mv (k7 _ (by omega))
      · exact ((f3 r h1 (by omega)).trans (k4 r h1)).trans (k7 r (by omega))
  refine q_iconst d_Mo_derive_0 rfl ?_
  refine q_ist_n_3 d_Mo_derive_1 (by decide) rfl ?_
  exact loop (n - 1) 0 (by omega) σ (fun q _ _ _ _ => rfl) (fun v hv => by omega) (fun r _ _ => rE.rfl) _ rfl
theorem rV.turn {σ : q_S} {m r : Nat} {N : Nat} {x : Int} (h : rV σ m r (N : Int)) (hx : x.natAbs = N) {s : Int} (hs : s = x.sign) : rV (q_up σ (m + 3) r s) m r x := by
  obtain ⟨n, hu, ht⟩ := h
  refine ⟨n, ⟨by rw [q_up_a _ _ (by omega)]; exact hu.1, by rw [q_up_self]; exact hs, hu.2.2.1, fun k hk => by rw [mr_o _ _ (by omega)]; exact hu.2.2.2.1 k hk, ?_⟩, fun h0 => by rw [mr_o _ _ (by omega)]; exact ht h0⟩
  rw [hx, dv_congr (h := mr σ m r) (fun k _ => mr_o _ _ (by omega)), hu.2.2.2.2]
  rfl
theorem prm_abs (x M : Int) (g : Nat) (hM : M = 1 ∨ M = -1) : (x.tdiv (g : Int) * M).natAbs = x.natAbs / g := by
  rw [Int.natAbs_mul, Int.natAbs_tdiv]
  rcases hM with h | h <;> rw [h] <;> simp <;> rfl
theorem prm_sg {x M : Int} {g : Nat} (hM : M = 1 ∨ M = -1) (hg : 0 < g) (hd : g ∣ x.natAbs) : x.sign * M = (x.tdiv (g : Int) * M).sign := by
  rw [Int.sign_mul]
  have h1 : M.sign = M := by rcases hM with h | h <;> rw [h] <;> rfl
  rw [h1]
  congr 1
  obtain ⟨c, hc⟩ := Int.ofNat_dvd_left.2 hd
  rw [hc, Int.mul_tdiv_cancel_left _ (by omega), Int.sign_mul, Int.sign_eq_one_of_pos (by omega), Int.one_mul]
set_option maxHeartbeats 4000000 in
set_option maxRecDepth 100000 in
theorem c_Mo_primitive (l : Launch) (K : pw_K) {L : q_L} {σ : q_S} {m p n : Nat} {P : Nat → Int} (hL : mL L m) (hp : p < 10) (hn : n ≤ 9) (hn1 : 1 ≤ n) (hd : σ (m + 4) p = (n : Int) - 1) (hP : ∀ k, k < n → rV σ m (9 * p + k) (P k)) (hl : P (n - 1) ≠ 0) (hb : ∀ k, k < n → ((P k).natAbs : Int) < 65536 ^ 1023) : q_C l K L y_Mo_primitive b_Mo_primitive 6 none 3 [.ref m, vi p] σ (fun v σ' => v = none ∧ (∀ k, k < n → rV σ' m (9 * p + k) ((P k).tdiv (gn P n : Int) * (P (n - 1)).sign)) ∧ rO σ σ' m ∧ (∀ r, (r < 97 ∨ 101 ≤ r) → (r < 9 * p ∨ 9 * p + n ≤ r) → rE σ σ' m r)) := by
  obtain ⟨hM0, hM1, hM2, hM3, hM4, hM5, hM6, hM7, hM8, hM9⟩ := hL
  have hmk : (P (n - 1)).sign = 1 ∨ (P (n - 1)).sign = -1 := by have := sg3 (P (n - 1)); have : (P (n - 1)).sign ≠ 0 := fun h => hl (Int.sign_eq_zero_iff_zero.1 h); omega
  have hg0 : 0 < gn P n := gn_pos (k := n) (i := n - 1) (by omega) hl
  have hgb : (gn P n : Int) < 65536 ^ 1023 := gn_lt (ip_pos (by decide) _) n hb
  refine q_start [some (.ref m), some (vi p), none, none, none, none] (by decide) (Nat.le_of_ble_eq_true rfl) (fun q h => h) ?_
  have loop2 : ∀ (r k : Nat), k + r = n → ∀ (σ1 : q_S), rO σ σ1 m → (∃ G : Int, rV σ1 m 97 G ∧ G.natAbs = gn P n) → (∀ v, v < k → rV σ1 m (9 * p + v) ((P v).tdiv (gn P n : Int) * (P (n - 1)).sign)) → (∀ v, k ≤ v → v < n → rV σ1 m (9 * p + v) (P v)) → (∀ r, (r < 97 ∨ 101 ≤ r) → (r < 9 * p ∨ 9 * p + n ≤ r) → rE σ σ1 m r) → ∀ t : Int, t = k → q_T l K L R_Mo b_Mo_primitive 6 none 3 (fun v σ' => v = none ∧ (∀ k, k < n → rV σ' m (9 * p + k) ((P k).tdiv (gn P n : Int) * (P (n - 1)).sign)) ∧ rO σ σ' m ∧ (∀ r, (r < 97 ∨ 101 ≤ r) → (r < 9 * p ∨ 9 * p + n ≤ r) → rE σ σ' m r)) 98 [some (.ref m), some (vi p), some (vi 97), some (vi (P (n - 1)).sign), some (vi t), none] [] σ1 := by
    intro r
    induction r with
    | zero =>
      intro k hk σ1 f1 f2 f3 f4 f5 t ht
      refine q_iload d_Mo_primitive_98 rfl ?_
      refine q_aload_n d_Mo_primitive_100 rfl ?_
      refine q_gr (by assumption) pc_Mo 4 (by decide) w_fl_Mo_20 rfl (by rfl) d_Mo_primitive_101 ?_
      refine q_iload_n d_Mo_primitive_104 rfl ?_
      refine q_ial (p) (by assumption) (by omega) (by omega) (by omega) d_Mo_primitive_105 ?_
      refine q_topi (show _ = (n : Int) - 1 by rw [f1 _ (by omega) (by omega) (by omega) (by omega)]; exact hd) ?_
      refine q_icmp_gt (tgt := 174) (by omega) (by omega) d_Mo_primitive_106 (by decide) (fun c106 => ?_) (fun c106 => absurd c106 (by omega))
      exact q_vret rfl (⟨rfl, fun v hv => f3 v (by omega), f1, f5⟩) d_Mo_primitive_174
    | succ r ih =>
      intro k hk σ1 f1 f2 f3 f4 f5 t ht
      refine q_iload d_Mo_primitive_98 rfl ?_
      refine q_aload_n d_Mo_primitive_100 rfl ?_
      refine q_gr (by assumption) pc_Mo 4 (by decide) w_fl_Mo_20 rfl (by rfl) d_Mo_primitive_101 ?_
      refine q_iload_n d_Mo_primitive_104 rfl ?_
      refine q_ial (p) (by assumption) (by omega) (by omega) (by omega) d_Mo_primitive_105 ?_
      refine q_topi (show _ = (n : Int) - 1 by rw [f1 _ (by omega) (by omega) (by omega) (by omega)]; exact hd) ?_
      refine q_icmp_gt (tgt := 174) (by omega) (by omega) d_Mo_primitive_106 (by decide) (fun c106 => absurd c106 (by omega)) (fun c106 => ?_)
      refine q_aload_n d_Mo_primitive_109 rfl ?_
      refine q_gr (by assumption) pc_Mo 3 (by decide) w_fl_Mo_17 rfl (by rfl) d_Mo_primitive_110 ?_
      refine q_bipush d_Mo_primitive_113 (by decide) ?_
      refine q_iload_n d_Mo_primitive_115 rfl ?_
      refine q_imul d_Mo_primitive_116 ?_
      refine q_iload d_Mo_primitive_117 rfl ?_
      refine q_iadd d_Mo_primitive_119 ?_
      refine q_topi (show _ = ((9 * p + k : Nat) : Int) by omega) ?_
      refine q_ial (9 * p + k) (by assumption) (by omega) (by omega) (by omega) d_Mo_primitive_120 ?_
      refine q_topi (f4 k (Nat.le_refl _) (by omega)).sgn ?_
      obtain ⟨G, g1, g2⟩ := f2
      refine q_ist_5 d_Mo_primitive_121 (by decide) rfl ?_
      refine q_aload_n d_Mo_primitive_123 rfl ?_
      refine q_bipush d_Mo_primitive_124 (by decide) ?_
      refine q_bipush d_Mo_primitive_126 (by decide) ?_
      refine q_bipush d_Mo_primitive_128 (by decide) ?_
      refine q_iload_n d_Mo_primitive_130 rfl ?_
      refine q_imul d_Mo_primitive_131 ?_
      refine q_iload d_Mo_primitive_132 rfl ?_
      refine q_iadd d_Mo_primitive_134 ?_
      refine q_topi (show _ = ((9 * p + k : Nat) : Int) by omega) ?_
      refine q_iload_n d_Mo_primitive_135 rfl ?_
      refine q_callV (As := [vi 99, vi 100, vi ((9 * p + k : Nat) : Int), vi 97]) (c_Mo_quotient l K (a := 99) (b := 100) (i := 9 * p + k) (j := 97) ⟨hM0, hM1, hM2, hM3, hM4, hM5, hM6, hM7, hM8, hM9⟩ (by decide) (by decide) (by omega) (by decide) (by decide) (by omega) (by omega) (by decide) (by decide) (f4 k (Nat.le_refl _) (by omega)) g1 (by omega) (by rw [g2]; exact hgb)) w_cd_Mo_quotient w_ini_Mo w_ml_Mo_79 w_im_Mo_quotient w_se_Mo_quotient (by assumption) rfl hd_Mo_quotient rfl (Nat.le_of_ble_eq_true rfl) d_Mo_primitive_136 (by decide) (by decide) (fun v σ2 hp => ?_)
      obtain ⟨rfl, k1, -, k2, k3, k4⟩ := hp
      rw [g2] at k1
      refine q_aload_n d_Mo_primitive_139 rfl ?_
      refine q_bipush d_Mo_primitive_140 (by decide) ?_
      refine q_iload_n d_Mo_primitive_142 rfl ?_
      refine q_imul d_Mo_primitive_143 ?_
      refine q_iload d_Mo_primitive_144 rfl ?_
      refine q_iadd d_Mo_primitive_146 ?_
      refine q_topi (show _ = ((9 * p + k : Nat) : Int) by omega) ?_
      refine q_bipush d_Mo_primitive_147 (by decide) ?_
      refine q_callV (As := [vi ((9 * p + k : Nat) : Int), vi 99]) (c_Mo_copy l K (r := 9 * p + k) (i := 99) ⟨hM0, hM1, hM2, hM3, hM4, hM5, hM6, hM7, hM8, hM9⟩ (by omega) (by decide) k1) w_cd_Mo_copy w_ini_Mo w_ml_Mo_69 w_im_Mo_copy w_se_Mo_copy (by assumption) rfl hd_Mo_copy rfl (Nat.le_of_ble_eq_true rfl) d_Mo_primitive_149 (by decide) (by decide) (fun v σ3 hp => ?_)
      obtain ⟨rfl, k5, k6, k7, k8⟩ := hp
      refine q_aload_n d_Mo_primitive_152 rfl ?_
      refine q_gr (by assumption) pc_Mo 3 (by decide) w_fl_Mo_17 rfl (by rfl) d_Mo_primitive_153 ?_
      refine q_bipush d_Mo_primitive_156 (by decide) ?_
      refine q_iload_n d_Mo_primitive_158 rfl ?_
      refine q_imul d_Mo_primitive_159 ?_
      refine q_iload d_Mo_primitive_160 rfl ?_
      refine q_iadd d_Mo_primitive_162 ?_
      refine q_topi (show _ = ((9 * p + k : Nat) : Int) by omega) ?_
      refine q_iload d_Mo_primitive_163 rfl ?_
      refine q_iload_n d_Mo_primitive_165 rfl ?_
      refine q_imul d_Mo_primitive_166 ?_
      refine q_ias (9 * p + k) (by assumption) (by omega) (by omega) (by omega) d_Mo_primitive_167 ?_
      refine q_iinc_4 d_Mo_primitive_168 (by decide) rfl ?_
      refine q_goto (tgt := 98) d_Mo_primitive_171 (by decide) ?_
      refine q_drop_5 ?_
      have kk := k5.turn (prm_abs (P k) (P (n - 1)).sign (gn P n) hmk) (prm_sg hmk hg0 (gn_dvd n k (by omega)))
      have hoth : ∀ r, r ≠ 9 * p + k → rE σ3 (q_up σ3 (m + 3) (9 * p + k) ((P k).sign * (P (n - 1)).sign)) m r := fun r hr => ⟨fun v hv => mr_o _ _ (by omega), by rw [q_up_a _ _ (by omega)], by rw [q_up_k _ _ hr]⟩
      refine ih (k + 1) (by omega) _ (fun q h1 h2 h3 h4 => by rw [q_up_a _ _ h3, k6 q h1 h2 h3 h4, k2 q h1 h2 h3 h4]; exact f1 q h1 h2 h3 h4) ⟨G, ((g1.mv (k4 97 (by decide) (by decide))).mv (k8 97 (by omega))).mv (hoth 97 (by omega)), g2⟩ (fun v hv => ?_) (fun v h6 h7 => (((f4 v (by omega) h7).mv (k4 _ (by omega) (by omega))).mv (k8 _ (by omega))).mv (hoth _ (by omega))) (fun r h1 h2 => (((f5 r h1 h2).trans (k4 r (by omega) (by omega))).trans (k8 r (by omega))).trans (hoth r (by omega))) _ (by omega)
      exact if ev : v = k then by subst ev; exact kk else (((f3 v (by omega)).mv (k4 _ (by omega) (by omega))).mv (k8 _ (by omega))).mv (hoth _ (by omega))
  have loop1 : ∀ (r k : Nat), k + r = n → ∀ (σ1 : q_S), rO σ σ1 m → (∀ r, (r < 97 ∨ 101 ≤ r) → rE σ σ1 m r) → (∃ G : Int, rV σ1 m 97 G ∧ G.natAbs = gn P k ∧ (G.natAbs : Int) < 65536 ^ 1023) → ∀ t : Int, t = k → q_T l K L R_Mo b_Mo_primitive 6 none 3 (fun v σ' => v = none ∧ (∀ k, k < n → rV σ' m (9 * p + k) ((P k).tdiv (gn P n : Int) * (P (n - 1)).sign)) ∧ rO σ σ' m ∧ (∀ r, (r < 97 ∨ 101 ≤ r) → (r < 9 * p ∨ 9 * p + n ≤ r) → rE σ σ' m r)) 11 [some (.ref m), some (vi p), some (vi 97), some (vi t), none, none] [] σ1 := by
    intro r
    induction r with
    | zero =>
      intro k hk σ1 f1 f2 f3 t ht
      refine q_iload_n d_Mo_primitive_11 rfl ?_
      refine q_aload_n d_Mo_primitive_12 rfl ?_
      refine q_gr (by assumption) pc_Mo 4 (by decide) w_fl_Mo_20 rfl (by rfl) d_Mo_primitive_13 ?_
      refine q_iload_n d_Mo_primitive_16 rfl ?_
      refine q_ial (p) (by assumption) (by omega) (by omega) (by omega) d_Mo_primitive_17 ?_
      refine q_topi (show _ = (n : Int) - 1 by rw [f1 _ (by omega) (by omega) (by omega) (by omega)]; exact hd) ?_
      refine q_icmp_gt (tgt := 78) (by omega) (by omega) d_Mo_primitive_18 (by decide) (fun c18 => ?_) (fun c18 => absurd c18 (by omega))
      refine q_aload_n d_Mo_primitive_78 rfl ?_
      refine q_gr (by assumption) pc_Mo 3 (by decide) w_fl_Mo_17 rfl (by rfl) d_Mo_primitive_79 ?_
      refine q_bipush d_Mo_primitive_82 (by decide) ?_
      refine q_iload_n d_Mo_primitive_84 rfl ?_
      refine q_imul d_Mo_primitive_85 ?_
      refine q_aload_n d_Mo_primitive_86 rfl ?_
      refine q_gr (by assumption) pc_Mo 4 (by decide) w_fl_Mo_20 rfl (by rfl) d_Mo_primitive_87 ?_
      refine q_iload_n d_Mo_primitive_90 rfl ?_
      refine q_ial (p) (by assumption) (by omega) (by omega) (by omega) d_Mo_primitive_91 ?_
      refine q_topi (show _ = (n : Int) - 1 by rw [f1 _ (by omega) (by omega) (by omega) (by omega)]; exact hd) ?_
      refine q_iadd d_Mo_primitive_92 ?_
      refine q_topi (show _ = ((9 * p + (n - 1) : Nat) : Int) by omega) ?_
      refine q_ial (9 * p + (n - 1)) (by assumption) (by omega) (by omega) (by omega) d_Mo_primitive_93 ?_
      refine q_topi (show _ = (P (n - 1)).sign from (((hP (n - 1) (by omega)).mv (f2 _ (by omega))).sgn)) ?_
      refine q_ist_n_3 d_Mo_primitive_94 (by decide) rfl ?_
      refine q_iconst d_Mo_primitive_95 rfl ?_
      refine q_ist_4 d_Mo_primitive_96 (by decide) rfl ?_
      obtain ⟨G, g1, g2, g3⟩ := f3
      exact loop2 n 0 (by omega) σ1 f1 ⟨G, g1, by rw [show n = k by omega]; exact g2⟩ (fun v hv => by omega) (fun v _ hv => (hP v hv).mv (f2 _ (by omega))) (fun r h1 h2 => f2 r h1) _ rfl
    | succ r ih =>
      intro k hk σ1 f1 f2 f3 t ht
      have inner : ∀ (fu : Nat) (A C : Int) (σ3 : q_S), C.natAbs ≤ fu → rV σ3 m 97 A → rV σ3 m 98 C → Nat.gcd A.natAbs C.natAbs = gn P (k + 1) → (A.natAbs : Int) < 65536 ^ 1023 → (C.natAbs : Int) < 65536 ^ 1023 → rO σ σ3 m → (∀ r, (r < 97 ∨ 101 ≤ r) → rE σ σ3 m r) → q_T l K L R_Mo b_Mo_primitive 6 none 3 (fun v σ' => v = none ∧ (∀ k, k < n → rV σ' m (9 * p + k) ((P k).tdiv (gn P n : Int) * (P (n - 1)).sign)) ∧ rO σ σ' m ∧ (∀ r, (r < 97 ∨ 101 ≤ r) → (r < 9 * p ∨ 9 * p + n ≤ r) → rE σ σ' m r)) 33 [some (.ref m), some (vi p), some (vi 97), some (vi t), none, none] [] σ3 := by
        intro fu
        induction fu with
        | zero =>
          intro A C σ3 p1 p2 p3 p4 p5 p6 p7 p8
          refine q_aload_n d_Mo_primitive_33 rfl ?_
          refine q_gr (by assumption) pc_Mo 2 (by decide) w_fl_Mo_14 rfl (by rfl) d_Mo_primitive_34 ?_
          refine q_bipush d_Mo_primitive_37 (by decide) ?_
          refine q_ial (98) (by assumption) (by omega) (by omega) (by omega) d_Mo_primitive_39 ?_
          obtain ⟨nc, hUc, htc⟩ := p3
          refine q_topi (show _ = (nc : Int) from hUc.1) ?_
          have hcz := hUc.zero htc
          have hcn := hUc.2.2.1
          refine q_if_le (tgt := 72) (by omega) d_Mo_primitive_40 (by decide) (fun c40 => ?_) (fun c40 => absurd c40 (by omega))
          refine q_iinc_3 d_Mo_primitive_72 (by decide) rfl ?_
          refine q_goto (tgt := 11) d_Mo_primitive_75 (by decide) ?_
          exact ih (k + 1) (by omega) σ3 p7 p8 ⟨A, p2, by rw [← p4, show C.natAbs = 0 by omega, Nat.gcd_zero_right], p5⟩ _ (by omega)
        | succ fu ihn =>
          intro A C σ3 p1 p2 p3 p4 p5 p6 p7 p8
          refine q_aload_n d_Mo_primitive_33 rfl ?_
          refine q_gr (by assumption) pc_Mo 2 (by decide) w_fl_Mo_14 rfl (by rfl) d_Mo_primitive_34 ?_
          refine q_bipush d_Mo_primitive_37 (by decide) ?_
          refine q_ial (98) (by assumption) (by omega) (by omega) (by omega) d_Mo_primitive_39 ?_
          obtain ⟨nc, hUc, htc⟩ := p3
          refine q_topi (show _ = (nc : Int) from hUc.1) ?_
          have hcz := hUc.zero htc
          have hcn := hUc.2.2.1
          refine q_if_le (tgt := 72) (by omega) d_Mo_primitive_40 (by decide) (fun cs => ?_) (fun cs => ?_)
          · refine q_iinc_3 d_Mo_primitive_72 (by decide) rfl ?_
            refine q_goto (tgt := 11) d_Mo_primitive_75 (by decide) ?_
            exact ih (k + 1) (by omega) σ3 p7 p8 ⟨A, p2, by rw [← p4, show C.natAbs = 0 by have := hcz.mp (by omega); omega, Nat.gcd_zero_right], p5⟩ _ (by omega)
          · refine q_aload_n d_Mo_primitive_43 rfl ?_
            refine q_bipush d_Mo_primitive_44 (by decide) ?_
            refine q_bipush d_Mo_primitive_46 (by decide) ?_
            refine q_iload_n d_Mo_primitive_48 rfl ?_
            refine q_bipush d_Mo_primitive_49 (by decide) ?_
            have hC0 : C ≠ 0 := fun h9 => by have := hcz.mpr (by rw [h9]; rfl); omega
            refine q_callV (As := [vi 99, vi 100, vi 97, vi 98]) (c_Mo_quotient l K (a := 99) (b := 100) (i := 97) (j := 98) ⟨hM0, hM1, hM2, hM3, hM4, hM5, hM6, hM7, hM8, hM9⟩ (by decide) (by decide) (by decide) (by decide) (by decide) (by decide) (by decide) (by decide) (by decide) p2 ⟨nc, hUc, htc⟩ hC0 p6) w_cd_Mo_quotient w_ini_Mo w_ml_Mo_79 w_im_Mo_quotient w_se_Mo_quotient (by assumption) rfl hd_Mo_quotient rfl (Nat.le_of_ble_eq_true rfl) d_Mo_primitive_51 (by decide) (by decide) (fun v σ4 hp => ?_)
            obtain ⟨rfl, -, k1, k2, k3, k4⟩ := hp
            refine q_aload_n d_Mo_primitive_54 rfl ?_
            refine q_iload_n d_Mo_primitive_55 rfl ?_
            refine q_bipush d_Mo_primitive_56 (by decide) ?_
            refine q_callV (As := [vi 97, vi 98]) (c_Mo_copy l K (r := 97) (i := 98) (x := C) ⟨hM0, hM1, hM2, hM3, hM4, hM5, hM6, hM7, hM8, hM9⟩ (by decide) (by decide) ((show rV σ3 m 98 C from ⟨nc, hUc, htc⟩).mv (k4 98 (by decide) (by decide)))) w_cd_Mo_copy w_ini_Mo w_ml_Mo_69 w_im_Mo_copy w_se_Mo_copy (by assumption) rfl hd_Mo_copy rfl (Nat.le_of_ble_eq_true rfl) d_Mo_primitive_58 (by decide) (by decide) (fun v σ5 hp => ?_)
            obtain ⟨rfl, k5, k6, k7, k8⟩ := hp
            refine q_aload_n d_Mo_primitive_61 rfl ?_
            refine q_bipush d_Mo_primitive_62 (by decide) ?_
            refine q_bipush d_Mo_primitive_64 (by decide) ?_
            refine q_callV (As := [vi 98, vi 100]) (c_Mo_copy l K (r := 98) (i := 100) ⟨hM0, hM1, hM2, hM3, hM4, hM5, hM6, hM7, hM8, hM9⟩ (by decide) (by decide) (k1.mv (k8 100 (by decide)))) w_cd_Mo_copy w_ini_Mo w_ml_Mo_69 w_im_Mo_copy w_se_Mo_copy (by assumption) rfl hd_Mo_copy rfl (Nat.le_of_ble_eq_true rfl) d_Mo_primitive_66 (by decide) (by decide) (fun v σ6 hp => ?_)
            obtain ⟨rfl, k9, k10, k11, k12⟩ := hp
            refine q_goto (tgt := 33) d_Mo_primitive_69 (by decide) ?_
            have hmd := Nat.mod_lt A.natAbs (show 0 < C.natAbs by omega)
            refine ihn C _ σ6 (by rw [Int.natAbs_natCast]; omega) (k5.mv (k12 97 (by decide))) k9 (by rw [Int.natAbs_natCast, Nat.gcd_comm, ← Nat.gcd_rec, Nat.gcd_comm]; exact p4) p6 (by rw [Int.natAbs_natCast]; omega) (fun q h1 h2 h3 h4 => by rw [k10 q h1 h2 h3 h4, k6 q h1 h2 h3 h4, k2 q h1 h2 h3 h4]; exact p7 q h1 h2 h3 h4) (fun r h1 => (((p8 r h1).trans (k4 r (by omega) (by omega))).trans (k8 r (by omega))).trans (k12 r (by omega)))
      refine q_iload_n d_Mo_primitive_11 rfl ?_
      refine q_aload_n d_Mo_primitive_12 rfl ?_
      refine q_gr (by assumption) pc_Mo 4 (by decide) w_fl_Mo_20 rfl (by rfl) d_Mo_primitive_13 ?_
      refine q_iload_n d_Mo_primitive_16 rfl ?_
      refine q_ial (p) (by assumption) (by omega) (by omega) (by omega) d_Mo_primitive_17 ?_
      refine q_topi (show _ = (n : Int) - 1 by rw [f1 _ (by omega) (by omega) (by omega) (by omega)]; exact hd) ?_
      refine q_icmp_gt (tgt := 78) (by omega) (by omega) d_Mo_primitive_18 (by decide) (fun c18 => absurd c18 (by omega)) (fun c18 => ?_)
      refine q_aload_n d_Mo_primitive_21 rfl ?_
      refine q_bipush d_Mo_primitive_22 (by decide) ?_
      refine q_bipush d_Mo_primitive_24 (by decide) ?_
      refine q_iload_n d_Mo_primitive_26 rfl ?_
      refine q_imul d_Mo_primitive_27 ?_
      refine q_iload_n d_Mo_primitive_28 rfl ?_
      refine q_iadd d_Mo_primitive_29 ?_
      refine q_topi (show _ = ((9 * p + k : Nat) : Int) by omega) ?_
      refine q_callV (As := [vi 98, vi ((9 * p + k : Nat) : Int)]) (c_Mo_copy l K (r := 98) (i := 9 * p + k) (x := P k) ⟨hM0, hM1, hM2, hM3, hM4, hM5, hM6, hM7, hM8, hM9⟩ (by decide) (by omega) ((hP k (by omega)).mv (f2 _ (by omega)))) w_cd_Mo_copy w_ini_Mo w_ml_Mo_69 w_im_Mo_copy w_se_Mo_copy (by assumption) rfl hd_Mo_copy rfl (Nat.le_of_ble_eq_true rfl) d_Mo_primitive_30 (by decide) (by decide) (fun v σ2 hp => ?_)
      obtain ⟨rfl, k1, k2, k3, k4⟩ := hp
      obtain ⟨G, g1, g2, g3⟩ := f3
      exact inner (P k).natAbs G (P k) σ2 (Nat.le_refl _) (g1.mv (k4 97 (by decide))) k1 (by rw [gn, g2]) g3 (by have := hb k (by omega); exact this) (fun q h1 h2 h3 h4 => by rw [k2 q h1 h2 h3 h4]; exact f1 q h1 h2 h3 h4) (fun r h1 => (f2 r h1).trans (k4 r (by omega)))
  refine q_bipush d_Mo_primitive_0 (by decide) ?_
  refine q_ist_n_2 d_Mo_primitive_2 (by decide) rfl ?_
  refine q_aload_n d_Mo_primitive_3 rfl ?_
  refine q_iload_n d_Mo_primitive_4 rfl ?_
  refine q_lconst (z := 0) d_Mo_primitive_5 (by decide) ?_
  refine q_callV (As := [vi 97, vl 0]) (q_Mo_set l K σ (r := 97) ⟨hM0, hM1, hM2, hM3, hM4, hM5, hM6, hM7, hM8, hM9⟩ (by decide) (by omega)) w_cd_Mo_set w_ini_Mo w_ml_Mo_72 w_im_Mo_set w_se_Mo_set (by assumption) rfl hd_Mo_set rfl (Nat.le_of_ble_eq_true rfl) d_Mo_primitive_6 (by decide) (by decide) (fun v σ1 hp => ?_)
  obtain ⟨rfl, k1, k2, k3, k4⟩ := hp
  refine q_iconst d_Mo_primitive_9 rfl ?_
  refine q_ist_n_3 d_Mo_primitive_10 (by decide) rfl ?_
  exact loop1 n 0 (by omega) σ1 k2 (fun r h1 => k4 r (by omega)) ⟨0, k1, rfl, by have := ip_pos (B := 65536) (by decide) 1023; simpa using this⟩ _ rfl
