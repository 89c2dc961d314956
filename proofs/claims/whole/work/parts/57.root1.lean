/-! ROOT: toLow, toHigh, toMiddle, halve; POLY: derive; BENCH: setTens -/
theorem ab_step {z b : Int} (hb : b = 1 ∨ b = -1) : ((z + b).natAbs : Int) ≤ z.natAbs + 1 := by omega
theorem ab_lt1 {z : Int} {u : Nat} (h : (z.natAbs : Int) < 2147483648 ^ u) : (z.natAbs : Int) + 1 < 2147483648 ^ (u + 1) := by
  have := ip_pos (B := 2147483648) (by decide) u
  rw [Int.pow_succ]
  omega
theorem ab_dbl {z : Int} {u : Nat} (h : (z.natAbs : Int) < 2147483648 ^ u) : ((z * 2 ^ 1).natAbs : Int) + 1 < 2147483648 ^ (u + 1) := by
  have h1 := ip_pos (B := 2147483648) (by decide) u
  have h2 : z * 2 ^ 1 = z * 2 := by rw [Int.pow_one]
  rw [h2, Int.pow_succ]
  omega
set_option maxHeartbeats 4000000 in
set_option maxRecDepth 100000 in
theorem c_Ro_toLow (l : Launch) (K : pw_K) {L : q_L} {σ : q_S} {r x u : Nat} {z lev : Int} (hL : roL L r) (hx : ptL L x) (hd : r + 2 < x ∨ x + 2 < r) (ha : nV σ (r + 1) 48 z) (hlev : σ r 1 = lev) (hz : (z.natAbs : Int) < 2147483648 ^ u) (hl : -100000 < lev ∧ lev < 99999) (hu : u + (-lev).toNat / 31 + 1 ≤ 48) : q_C l K L y_Ro_toLow b_Ro_toLow 2 none 4 [.ref r, .ref x] σ (fun v σ' => v = none ∧ nV σ' (x + 1) 48 (if 0 ≤ lev then z else (z) * 2 ^ (-(lev)).toNat) ∧ σ' x 1 = max 0 (lev) ∧ ∀ q, q ≠ x → q ≠ x + 1 → q ≠ x + 2 → σ' q = σ q) := by
  refine q_start [some (.ref r), some (.ref x)] (by decide) (Nat.le_of_ble_eq_true rfl) (fun q h => h) ?_
  refine q_aload_n d_Ro_toLow_0 rfl ?_
  refine q_aload_n d_Ro_toLow_1 rfl ?_
  refine q_gr hL.1 pc_Ro 0 (by decide) w_fl_Ro_12 rfl (by rfl) d_Ro_toLow_2 ?_
  refine q_aload_n d_Ro_toLow_5 rfl ?_
  refine q_gi hL.1 pc_Ro 1 (by decide) w_fl_Ro_18 rfl (by rfl) d_Ro_toLow_6 ?_
  refine q_topi hlev ?_
  refine q_callV (As := [.ref (r + 1), vi lev]) (c_Pt_place l K (u := u) hx hL.2 (by omega) ha hz hu (by omega)) w_cd_Pt_place w_ini_Pt w_ml_Ro_22 w_im_Pt_place w_se_Pt_place hx.1 rfl hd_Pt_place rfl (Nat.le_of_ble_eq_true rfl) d_Ro_toLow_9 (by decide) (by decide) (fun v σ1 hp => ?_)
  obtain ⟨rfl, k1, k2, k3⟩ := hp
  exact q_vret rfl (⟨rfl, k1, k2, k3⟩) d_Ro_toLow_12
set_option maxHeartbeats 4000000 in
set_option maxRecDepth 100000 in
theorem c_Ro_toHigh (l : Launch) (K : pw_K) {L : q_L} {σ : q_S} {r x u : Nat} {z lev : Int} (hL : roL L r) (hx : ptL L x) (hd : r + 2 < x ∨ x + 2 < r) (ha : nV σ (r + 1) 48 z) (hlev : σ r 1 = lev) (hz : (z.natAbs : Int) < 2147483648 ^ u) (hl : -100000 < lev ∧ lev < 99999) (hu : u + 1 + (-lev).toNat / 31 + 1 ≤ 47) : q_C l K L y_Ro_toHigh b_Ro_toHigh 2 none 4 [.ref r, .ref x] σ (fun v σ' => v = none ∧ nV σ' (r + 1) 48 z ∧ (nV σ' (x + 1) 48 (if 0 ≤ lev then z + 1 else (z + 1) * 2 ^ (-(lev)).toNat) ∧ σ' x 1 = max 0 (lev)) ∧ ∀ q, q ≠ r + 1 → q ≠ r + 2 → q ≠ x → q ≠ x + 1 → q ≠ x + 2 → σ' q = σ q) := by
  have hb1 := ab_lt1 hz
  have hb2 := ip_le (B := 2147483648) (by decide) (show u + 1 ≤ 48 - 1 by omega)
  have hb3 := ab_step (z := z) (Or.inl rfl)
  refine q_start [some (.ref r), some (.ref x)] (by decide) (Nat.le_of_ble_eq_true rfl) (fun q h => h) ?_
  refine q_aload_n d_Ro_toHigh_0 rfl ?_
  refine q_gr hL.1 pc_Ro 0 (by decide) w_fl_Ro_12 rfl (by rfl) d_Ro_toHigh_1 ?_
  refine q_iconst d_Ro_toHigh_4 rfl ?_
  refine q_callV (As := [vi (1)]) (c_Nu_step l K hL.2 ha (Or.inl rfl) (by decide) (by omega)) w_cd_Nu_step w_ini_Nu w_ml_Ro_28 w_im_Nu_step w_se_Nu_step hL.2.1.1 rfl hd_Nu_step rfl (Nat.le_of_ble_eq_true rfl) d_Ro_toHigh_5 (by decide) (by decide) (fun v σ1 hp => ?_)
  obtain ⟨rfl, k1, k2⟩ := hp
  refine q_aload_n d_Ro_toHigh_8 rfl ?_
  refine q_aload_n d_Ro_toHigh_9 rfl ?_
  refine q_gr hL.1 pc_Ro 0 (by decide) w_fl_Ro_12 rfl (by rfl) d_Ro_toHigh_10 ?_
  refine q_aload_n d_Ro_toHigh_13 rfl ?_
  refine q_gi hL.1 pc_Ro 1 (by decide) w_fl_Ro_18 rfl (by rfl) d_Ro_toHigh_14 ?_
  refine q_topi (show _ = lev by rw [k2 _ (by omega) (by omega)]; exact hlev) ?_
  refine q_callV (As := [.ref (r + 1), vi lev]) (c_Pt_place l K (u := u + 1) hx hL.2 (by omega) k1 (by omega) (by omega) (by omega)) w_cd_Pt_place w_ini_Pt w_ml_Ro_22 w_im_Pt_place w_se_Pt_place hx.1 rfl hd_Pt_place rfl (Nat.le_of_ble_eq_true rfl) d_Ro_toHigh_17 (by decide) (by decide) (fun v σ2 hp => ?_)
  obtain ⟨rfl, k3, k4, k5⟩ := hp
  have k6 := k1.mv (k5 _ (by omega) (by omega) (by omega)) (k5 _ (by omega) (by omega) (by omega))
  refine q_aload_n d_Ro_toHigh_20 rfl ?_
  refine q_gr hL.1 pc_Ro 0 (by decide) w_fl_Ro_12 rfl (by rfl) d_Ro_toHigh_21 ?_
  refine q_iconst d_Ro_toHigh_24 rfl ?_
  refine q_callV (As := [vi (-1)]) (c_Nu_step l K hL.2 k6 (Or.inr rfl) (by decide) (by omega)) w_cd_Nu_step w_ini_Nu w_ml_Ro_28 w_im_Nu_step w_se_Nu_step hL.2.1.1 rfl hd_Nu_step rfl (Nat.le_of_ble_eq_true rfl) d_Ro_toHigh_25 (by decide) (by decide) (fun v σ3 hp => ?_)
  obtain ⟨rfl, k7, k8⟩ := hp
  exact q_vret rfl (⟨rfl, by rw [show z + 1 + -1 = z by omega] at k7; exact k7, ⟨k3.mv (k8 _ (by omega) (by omega)) (k8 _ (by omega) (by omega)), by rw [k8 _ (by omega) (by omega)]; exact k4⟩, fun q h1 h2 h3 h4 h5 => by rw [k8 q h1 h2, k5 q h3 h4 h5, k2 q h1 h2]⟩) d_Ro_toHigh_28
set_option maxHeartbeats 4000000 in
set_option maxRecDepth 100000 in
theorem c_Ro_toMiddle (l : Launch) (K : pw_K) {L : q_L} {σ : q_S} {r x u : Nat} {z lev : Int} (hL : roL L r) (hx : ptL L x) (hd : r + 2 < x ∨ x + 2 < r) (ha : nV σ (r + 1) 48 z) (hlev : σ r 1 = lev) (hz : (z.natAbs : Int) < 2147483648 ^ u) (hl : -100000 < lev ∧ lev < 99999) (hu : u + 1 + (-(lev + 1)).toNat / 31 + 1 ≤ 47) : q_C l K L y_Ro_toMiddle b_Ro_toMiddle 2 none 4 [.ref r, .ref x] σ (fun v σ' => v = none ∧ nV σ' (r + 1) 48 z ∧ (nV σ' (x + 1) 48 (if 0 ≤ lev + 1 then z * 2 ^ 1 + 1 else (z * 2 ^ 1 + 1) * 2 ^ (-(lev + 1)).toNat) ∧ σ' x 1 = max 0 (lev + 1)) ∧ ∀ q, q ≠ r + 1 → q ≠ r + 2 → q ≠ x → q ≠ x + 1 → q ≠ x + 2 → σ' q = σ q) := by
  have hb1 := ab_dbl hz
  have hb2 := ip_le (B := 2147483648) (by decide) (show u + 1 ≤ 48 - 1 by omega)
  have hb3 := ab_step (z := z * 2 ^ 1) (Or.inl rfl)
  have hzz : (z * 2 ^ 1).sign * (((z * 2 ^ 1).natAbs : Int) / 2 ^ 1) = z := by
    have h1 := sg3 z
    have h2 := sg3 (z * 2)
    rw [Int.pow_one]
    rcases h1 with h | h | h
    · rw [show (z * 2).sign = 1 by omega]; omega
    · rw [h.1]; rfl
    · rw [show (z * 2).sign = -1 by omega]; omega
  refine q_start [some (.ref r), some (.ref x)] (by decide) (Nat.le_of_ble_eq_true rfl) (fun q h => h) ?_
  refine q_aload_n d_Ro_toMiddle_0 rfl ?_
  refine q_gr hL.1 pc_Ro 0 (by decide) w_fl_Ro_12 rfl (by rfl) d_Ro_toMiddle_1 ?_
  refine q_iconst d_Ro_toMiddle_4 rfl ?_
  refine q_callV (As := [vi ((1 : Nat) : Int)]) (c_Nu_shiftUp l K (u := u) (p := 1) hL.2 ha hz (by omega)) w_cd_Nu_shiftUp w_ini_Nu w_ml_Ro_32 w_im_Nu_shiftUp w_se_Nu_shiftUp hL.2.1.1 rfl hd_Nu_shiftUp rfl (Nat.le_of_ble_eq_true rfl) d_Ro_toMiddle_5 (by decide) (by decide) (fun v σ1 hp => ?_)
  obtain ⟨rfl, k1, k2⟩ := hp
  refine q_aload_n d_Ro_toMiddle_8 rfl ?_
  refine q_gr hL.1 pc_Ro 0 (by decide) w_fl_Ro_12 rfl (by rfl) d_Ro_toMiddle_9 ?_
  refine q_iconst d_Ro_toMiddle_12 rfl ?_
  refine q_callV (As := [vi (1)]) (c_Nu_step l K hL.2 k1 (Or.inl rfl) (by decide) (by omega)) w_cd_Nu_step w_ini_Nu w_ml_Ro_28 w_im_Nu_step w_se_Nu_step hL.2.1.1 rfl hd_Nu_step rfl (Nat.le_of_ble_eq_true rfl) d_Ro_toMiddle_13 (by decide) (by decide) (fun v σ2 hp => ?_)
  obtain ⟨rfl, k3, k4⟩ := hp
  refine q_aload_n d_Ro_toMiddle_16 rfl ?_
  refine q_aload_n d_Ro_toMiddle_17 rfl ?_
  refine q_gr hL.1 pc_Ro 0 (by decide) w_fl_Ro_12 rfl (by rfl) d_Ro_toMiddle_18 ?_
  refine q_aload_n d_Ro_toMiddle_21 rfl ?_
  refine q_gi hL.1 pc_Ro 1 (by decide) w_fl_Ro_18 rfl (by rfl) d_Ro_toMiddle_22 ?_
  refine q_topi (show _ = lev by rw [k4 _ (by omega) (by omega), k2 _ (by omega) (by omega)]; exact hlev) ?_
  refine q_iconst d_Ro_toMiddle_25 rfl ?_
  refine q_iadd d_Ro_toMiddle_26 ?_
  refine q_callV (As := [.ref (r + 1), vi (lev + 1)]) (c_Pt_place l K (u := u + 1) hx hL.2 (by omega) k3 (by omega) (by omega) (by omega)) w_cd_Pt_place w_ini_Pt w_ml_Ro_22 w_im_Pt_place w_se_Pt_place hx.1 rfl hd_Pt_place rfl (Nat.le_of_ble_eq_true rfl) d_Ro_toMiddle_27 (by decide) (by decide) (fun v σ3 hp => ?_)
  obtain ⟨rfl, k5, k6, k7⟩ := hp
  have k8 := k3.mv (k7 _ (by omega) (by omega) (by omega)) (k7 _ (by omega) (by omega) (by omega))
  refine q_aload_n d_Ro_toMiddle_30 rfl ?_
  refine q_gr hL.1 pc_Ro 0 (by decide) w_fl_Ro_12 rfl (by rfl) d_Ro_toMiddle_31 ?_
  refine q_iconst d_Ro_toMiddle_34 rfl ?_
  refine q_callV (As := [vi (-1)]) (c_Nu_step l K hL.2 k8 (Or.inr rfl) (by decide) (by omega)) w_cd_Nu_step w_ini_Nu w_ml_Ro_28 w_im_Nu_step w_se_Nu_step hL.2.1.1 rfl hd_Nu_step rfl (Nat.le_of_ble_eq_true rfl) d_Ro_toMiddle_35 (by decide) (by decide) (fun v σ4 hp => ?_)
  obtain ⟨rfl, k9, k10⟩ := hp
  rw [show z * 2 ^ 1 + 1 + -1 = z * 2 ^ 1 by omega] at k9
  refine q_aload_n d_Ro_toMiddle_38 rfl ?_
  refine q_gr hL.1 pc_Ro 0 (by decide) w_fl_Ro_12 rfl (by rfl) d_Ro_toMiddle_39 ?_
  refine q_iconst d_Ro_toMiddle_42 rfl ?_
  refine q_callV (As := [vi ((1 : Nat) : Int)]) (c_Nu_shiftDown l K (p := 1) hL.2 k9 (by omega)) w_cd_Nu_shiftDown w_ini_Nu w_ml_Ro_35 w_im_Nu_shiftDown w_se_Nu_shiftDown hL.2.1.1 rfl hd_Nu_shiftDown rfl (Nat.le_of_ble_eq_true rfl) d_Ro_toMiddle_43 (by decide) (by decide) (fun v σ5 hp => ?_)
  obtain ⟨rfl, k11, k12⟩ := hp
  rw [hzz] at k11
  refine q_pop d_Ro_toMiddle_46 rfl ?_
  exact q_vret rfl (⟨rfl, k11, ⟨k5.mv (by rw [k12 _ (by omega) (by omega), k10 _ (by omega) (by omega)]) (by rw [k12 _ (by omega) (by omega), k10 _ (by omega) (by omega)]), by rw [k12 _ (by omega) (by omega), k10 _ (by omega) (by omega)]; exact k6⟩, fun q h1 h2 h3 h4 h5 => by rw [k12 q h1 h2, k10 q h1 h2, k7 q h3 h4 h5, k4 q h1 h2, k2 q h1 h2]⟩) d_Ro_toMiddle_47
set_option maxHeartbeats 4000000 in
set_option maxRecDepth 100000 in
theorem c_Ro_halve (l : Launch) (K : pw_K) {L : q_L} {σ : q_S} {r u : Nat} {z lev up : Int} (hL : roL L r) (ha : nV σ (r + 1) 48 z) (hlev : σ r 1 = lev) (hup : up = 0 ∨ up = 1) (hz : (z.natAbs : Int) < 2147483648 ^ u) (hu : u + 2 ≤ 48) : q_C l K L y_Ro_halve b_Ro_halve 2 none 4 [.ref r, vi up] σ (fun v σ' => v = none ∧ nV σ' (r + 1) 48 (z * 2 ^ 1 + up) ∧ σ' r 1 = lev + 1 ∧ (∀ k, k ≠ 1 → σ' r k = σ r k) ∧ ∀ q, q ≠ r → q ≠ r + 1 → q ≠ r + 2 → σ' q = σ q) := by
  have hb1 := ab_dbl hz
  have hb2 := ip_le (B := 2147483648) (by decide) (show u + 1 ≤ 48 - 1 by omega)
  refine q_start [some (.ref r), some (vi up)] (by decide) (Nat.le_of_ble_eq_true rfl) (fun q h => h) ?_
  refine q_aload_n d_Ro_halve_0 rfl ?_
  refine q_gr hL.1 pc_Ro 0 (by decide) w_fl_Ro_12 rfl (by rfl) d_Ro_halve_1 ?_
  refine q_iconst d_Ro_halve_4 rfl ?_
  refine q_callV (As := [vi ((1 : Nat) : Int)]) (c_Nu_shiftUp l K (u := u) (p := 1) hL.2 ha hz (by omega)) w_cd_Nu_shiftUp w_ini_Nu w_ml_Ro_32 w_im_Nu_shiftUp w_se_Nu_shiftUp hL.2.1.1 rfl hd_Nu_shiftUp rfl (Nat.le_of_ble_eq_true rfl) d_Ro_halve_5 (by decide) (by decide) (fun v σ1 hp => ?_)
  obtain ⟨rfl, k1, k2⟩ := hp
  refine q_iload_n d_Ro_halve_8 rfl ?_
  refine q_if_eq (tgt := 20) (by omega) d_Ro_halve_9 (by decide) (fun cu => ?_) (fun cu => ?_)
  · refine q_aload_n d_Ro_halve_20 rfl ?_
    refine q_dup d_Ro_halve_21 rfl ?_
    refine q_gi hL.1 pc_Ro 1 (by decide) w_fl_Ro_18 rfl (by rfl) d_Ro_halve_22 ?_
    refine q_topi (show _ = lev by rw [k2 _ (by omega) (by omega)]; exact hlev) ?_
    refine q_iconst d_Ro_halve_25 rfl ?_
    refine q_iadd d_Ro_halve_26 ?_
    refine q_pi hL.1 pc_Ro 1 (by decide) w_fl_Ro_18 rfl rfl rfl rfl (by rfl) d_Ro_halve_27 ?_
    exact q_vret rfl (⟨rfl, by rw [cu, Int.add_zero]; exact k1.mv (q_up_a _ _ (by omega)) (q_up_a _ _ (by omega)), q_up_self _ _ _ _, fun k hk => by rw [q_up_k _ _ hk, k2 _ (by omega) (by omega)], fun q h0 h1 h2 => by rw [q_up_a _ _ h0]; exact k2 q h1 h2⟩) d_Ro_halve_30
  · refine q_aload_n d_Ro_halve_12 rfl ?_
    refine q_gr hL.1 pc_Ro 0 (by decide) w_fl_Ro_12 rfl (by rfl) d_Ro_halve_13 ?_
    refine q_iconst d_Ro_halve_16 rfl ?_
    refine q_callV (As := [vi (1)]) (c_Nu_step l K hL.2 k1 (Or.inl rfl) (by decide) (by omega)) w_cd_Nu_step w_ini_Nu w_ml_Ro_28 w_im_Nu_step w_se_Nu_step hL.2.1.1 rfl hd_Nu_step rfl (Nat.le_of_ble_eq_true rfl) d_Ro_halve_17 (by decide) (by decide) (fun v σ2 hp => ?_)
    obtain ⟨rfl, k3, k4⟩ := hp
    refine q_aload_n d_Ro_halve_20 rfl ?_
    refine q_dup d_Ro_halve_21 rfl ?_
    refine q_gi hL.1 pc_Ro 1 (by decide) w_fl_Ro_18 rfl (by rfl) d_Ro_halve_22 ?_
    refine q_topi (show _ = lev by rw [k4 _ (by omega) (by omega), k2 _ (by omega) (by omega)]; exact hlev) ?_
    refine q_iconst d_Ro_halve_25 rfl ?_
    refine q_iadd d_Ro_halve_26 ?_
    refine q_pi hL.1 pc_Ro 1 (by decide) w_fl_Ro_18 rfl rfl rfl rfl (by rfl) d_Ro_halve_27 ?_
    exact q_vret rfl (⟨rfl, by rw [show up = 1 by omega]; exact k3.mv (q_up_a _ _ (by omega)) (q_up_a _ _ (by omega)), q_up_self _ _ _ _, fun k hk => by rw [q_up_k _ _ hk, k4 _ (by omega) (by omega), k2 _ (by omega) (by omega)], fun q h0 h1 h2 => by rw [q_up_a _ _ h0, k4 q h1 h2, k2 q h1 h2]⟩) d_Ro_halve_30
set_option maxHeartbeats 4000000 in
set_option maxRecDepth 100000 in
theorem c_Py_derive (l : Launch) (K : pw_K) {L : q_L} {σ : q_S} {p N w n : Nat} {P : Nat → Int} (hL : pL L p N w) (hn : n ≤ N) (hn1 : 1 ≤ n) (hw0 : 0 < w) (hd : σ p 1 = (n : Int) - 1) (hP : ∀ k, k < n → nV σ (p + 2 + 2 * k) w (P k)) (hb : ∀ k, k < n → ((P k).natAbs : Int) < 2147483648 ^ (w - 1)) : q_C l K L y_Py_derive b_Py_derive 2 none 2 [.ref p] σ (fun v σ' => v = none ∧ σ' p 1 = (top (fun k => P (k + 1) * ((k : Int) + 1)) (n - 1) : Int) - 1 ∧ (∀ k, k < n - 1 → nV σ' (p + 2 + 2 * k) w (P (k + 1) * ((k : Int) + 1))) ∧ (∀ q, (q < p ∨ p + 2 + 2 * (n - 1) ≤ q) → σ' q = σ q)) := by
  have hL0 := hL
  obtain ⟨hp0, ⟨g, hg1, hg2⟩, hpn, hN⟩ := hL
  refine q_start [some (.ref p), none] (by decide) (Nat.le_of_ble_eq_true rfl) (fun q h => h) ?_
  have loop : ∀ (d k : Nat), k + d = n - 1 → ∀ (σ1 : q_S), σ1 p 1 = (n : Int) - 1 → (∀ i, i < k → nV σ1 (p + 2 + 2 * i) w (P (i + 1) * ((i : Int) + 1))) → (∀ q, (q < p + 2 ∨ p + 2 + 2 * k ≤ q) → σ1 q = σ q) → ∀ t : Int, t = (k : Int) + 1 → q_T l K L R_Py b_Py_derive 2 none 2 (fun v σ' => v = none ∧ σ' p 1 = (top (fun k => P (k + 1) * ((k : Int) + 1)) (n - 1) : Int) - 1 ∧ (∀ k, k < n - 1 → nV σ' (p + 2 + 2 * k) w (P (k + 1) * ((k : Int) + 1))) ∧ (∀ q, (q < p ∨ p + 2 + 2 * (n - 1) ≤ q) → σ' q = σ q)) 2 [some (.ref p), some (vi t)] [] σ1 := by
    intro d
    induction d with
    | zero =>
      intro k hk σ1 f1 f2 f3 t ht
      refine q_iload_n d_Py_derive_2 rfl ?_
      refine q_aload_n d_Py_derive_3 rfl ?_
      refine q_gi (by assumption) pc_Py 1 (by decide) w_fl_Py_18 rfl (by rfl) d_Py_derive_4 ?_
      refine q_topi f1 ?_
      refine q_icmp_gt (tgt := 45) (by omega) (by omega) d_Py_derive_7 (by decide) (fun c7 => ?_) (fun c7 => absurd c7 (by omega))
      refine q_aload_n d_Py_derive_45 rfl ?_
      refine q_aload_n d_Py_derive_46 rfl ?_
      refine q_gi (by assumption) pc_Py 1 (by decide) w_fl_Py_18 rfl (by rfl) d_Py_derive_47 ?_
      refine q_topi f1 ?_
      refine q_iconst d_Py_derive_50 rfl ?_
      refine q_isub d_Py_derive_51 ?_
      refine q_callV (As := [vi ((n : Int) - 1 - 1)]) (q_Py_lower l K (F := n - 1) (P := fun k => P (k + 1) * ((k : Int) + 1)) hL0 (by omega) (by omega) (by omega) (fun i hi => f2 i (by omega))) w_cd_Py_lower w_ini_Py w_ml_Py_32 w_im_Py_lower w_se_Py_lower hp0 rfl hd_Py_lower rfl (Nat.le_of_ble_eq_true rfl) d_Py_derive_52 (by decide) (by decide) (fun v σ2 hp => ?_)
      obtain ⟨rfl, k1, k2⟩ := hp
      exact q_vret rfl (⟨rfl, k1, fun i hi => (f2 i (by omega)).mv (k2 _ (by omega)) (k2 _ (by omega)), fun q hq => by rw [k2 q (by omega)]; exact f3 q (by omega)⟩) d_Py_derive_55
    | succ d ih =>
      intro k hk σ1 f1 f2 f3 t ht
      refine q_iload_n d_Py_derive_2 rfl ?_
      refine q_aload_n d_Py_derive_3 rfl ?_
      refine q_gi (by assumption) pc_Py 1 (by decide) w_fl_Py_18 rfl (by rfl) d_Py_derive_4 ?_
      refine q_topi f1 ?_
      refine q_icmp_gt (tgt := 45) (by omega) (by omega) d_Py_derive_7 (by decide) (fun c7 => absurd c7 (by omega)) (fun c7 => ?_)
      refine q_aload_n d_Py_derive_10 rfl ?_
      refine q_gr hp0 pc_Py 0 (by decide) w_fl_Py_9 rfl (by rfl) d_Py_derive_11 ?_
      refine q_iload_n d_Py_derive_14 rfl ?_
      refine q_iconst d_Py_derive_15 rfl ?_
      refine q_isub d_Py_derive_16 ?_
      refine q_aal (k) 4 (b := p + 2 + 2 * (k)) rfl hg1 (by omega) (by omega) (by omega) (hg2 _ (by omega)) d_Py_derive_17 ?_
      refine q_aload_n d_Py_derive_18 rfl ?_
      refine q_gr hp0 pc_Py 0 (by decide) w_fl_Py_9 rfl (by rfl) d_Py_derive_19 ?_
      refine q_iload_n d_Py_derive_22 rfl ?_
      refine q_aal (k + 1) 4 (b := p + 2 + 2 * (k + 1)) rfl hg1 (by omega) (by omega) (by omega) (hg2 _ (by omega)) d_Py_derive_23 ?_
      refine q_callV (As := [.ref (p + 2 + 2 * (k + 1))]) (c_Nu_copy l K (hpn k (by omega)) (hpn (k + 1) (by omega)) (by omega) ((hP (k + 1) (by omega)).mv (f3 _ (by omega)) (f3 _ (by omega))) (by have := hb (k + 1) (by omega); have := ip_le (B := 2147483648) (by decide) (show w - 1 ≤ w by omega); omega)) w_cd_Nu_copy w_ini_Nu w_ml_Py_28 w_im_Nu_copy w_se_Nu_copy (hpn k (by omega)).1.1 rfl hd_Nu_copy rfl (Nat.le_of_ble_eq_true rfl) d_Py_derive_24 (by decide) (by decide) (fun v σ2 hp => ?_)
      obtain ⟨rfl, k1, k2⟩ := hp
      refine q_aload_n d_Py_derive_27 rfl ?_
      refine q_gr hp0 pc_Py 0 (by decide) w_fl_Py_9 rfl (by rfl) d_Py_derive_28 ?_
      refine q_iload_n d_Py_derive_31 rfl ?_
      refine q_iconst d_Py_derive_32 rfl ?_
      refine q_isub d_Py_derive_33 ?_
      refine q_aal (k) 4 (b := p + 2 + 2 * (k)) rfl hg1 (by omega) (by omega) (by omega) (hg2 _ (by omega)) d_Py_derive_34 ?_
      refine q_iload_n d_Py_derive_35 rfl ?_
      refine q_callV (As := [vi t]) (by rw [show t = (k : Int) + 1 by omega]; exact c_Nu_times l K (hpn k (by omega)) k1 (by omega) hw0 (hb (k + 1) (by omega))) w_cd_Nu_times w_ini_Nu w_ml_Py_39 w_im_Nu_times w_se_Nu_times (hpn k (by omega)).1.1 rfl hd_Nu_times rfl (Nat.le_of_ble_eq_true rfl) d_Py_derive_36 (by decide) (by decide) (fun v σ3 hp => ?_)
      obtain ⟨rfl, k3, k4⟩ := hp
      refine q_iinc_1 d_Py_derive_39 (by decide) rfl ?_
      refine q_goto (tgt := 2) d_Py_derive_42 (by decide) ?_
      exact ih (k + 1) (by omega) σ3 (by rw [k4 _ (by omega) (by omega), k2 _ (by omega) (by omega)]; exact f1) (fun i hi => if e : i = k then by subst e; exact k3 else (f2 i (by omega)).mv (by rw [k4 _ (by omega) (by omega), k2 _ (by omega) (by omega)]) (by rw [k4 _ (by omega) (by omega), k2 _ (by omega) (by omega)])) (fun q h6 => by rw [k4 q (by omega) (by omega), k2 q (by omega) (by omega)]; exact f3 q (by omega)) _ (by omega)
  refine q_iconst d_Py_derive_0 rfl ?_
  refine q_ist_n_1 d_Py_derive_1 (by decide) rfl ?_
  exact loop (n - 1) 0 (by omega) σ hd (fun i hi => by omega) (fun q _ => rfl) _ rfl
theorem ten_lt {k : Nat} (h : k ≤ 1000) : (((10 : Int) ^ k).natAbs : Int) < 2147483648 ^ (160 - 1) := by
  have h0 := ip_pos (B := 10) (by decide) k
  have h1 := ip_le (B := 10) (by decide) h
  have h2 : (10 : Int) ^ 1000 < 2147483648 ^ (160 - 1) := by decide +kernel
  rw [show (((10 : Int) ^ k).natAbs : Int) = 10 ^ k by omega]
  exact Int.lt_of_le_of_lt h1 h2
set_option maxHeartbeats 4000000 in
set_option maxRecDepth 100000 in
theorem c_Be_setTens (l : Launch) (K : pw_K) {L : q_L} {σ : q_S} {b n : Nat} (hL : beL L b) (hn : n ≤ 1000) : q_C l K L y_Be_setTens b_Be_setTens 3 none 3 [.ref b, vi (n : Int)] σ (fun v σ' => v = none ∧ nV σ' (b + 15) 160 (10 ^ n) ∧ ∀ q, q ≠ b + 15 → q ≠ b + 16 → σ' q = σ q) := by
  have hT : nL L (b + 15) 160 := hL.2.1 7 (by decide)
  refine q_start [some (.ref b), some (vi (n : Int)), none] (by decide) (Nat.le_of_ble_eq_true rfl) (fun q h => h) ?_
  have loop : ∀ (d k : Nat), k + d = n → ∀ (σ1 : q_S), nV σ1 (b + 15) 160 (10 ^ k) → (∀ q, q ≠ b + 15 → q ≠ b + 16 → σ1 q = σ q) → ∀ t : Int, t = k → q_T l K L R_Be b_Be_setTens 3 none 3 (fun v σ' => v = none ∧ nV σ' (b + 15) 160 (10 ^ n) ∧ ∀ q, q ≠ b + 15 → q ≠ b + 16 → σ' q = σ q) 10 [some (.ref b), some (vi (n : Int)), some (vi t)] [] σ1 := by
    intro d
    induction d with
    | zero =>
      intro k hk σ1 f1 f2 t ht
      refine q_iload_n d_Be_setTens_10 rfl ?_
      refine q_iload_n d_Be_setTens_11 rfl ?_
      refine q_icmp_ge (tgt := 30) (by omega) (by omega) d_Be_setTens_12 (by decide) (fun c12 => ?_) (fun c12 => absurd c12 (by omega))
      exact q_vret rfl (⟨rfl, by rw [show n = k by omega]; exact f1, f2⟩) d_Be_setTens_30
    | succ d ih =>
      intro k hk σ1 f1 f2 t ht
      refine q_iload_n d_Be_setTens_10 rfl ?_
      refine q_iload_n d_Be_setTens_11 rfl ?_
      refine q_icmp_ge (tgt := 30) (by omega) (by omega) d_Be_setTens_12 (by decide) (fun c12 => absurd c12 (by omega)) (fun c12 => ?_)
      refine q_aload_n d_Be_setTens_15 rfl ?_
      refine q_gr hL.1 pc_Be 7 (by decide) w_fl_Be_38 rfl (by rfl) d_Be_setTens_16 ?_
      refine q_bipush d_Be_setTens_19 (by decide) ?_
      refine q_callV (As := [vi 10]) (c_Nu_times l K hT f1 (by omega) (by decide) (ten_lt (by omega))) w_cd_Nu_times w_ini_Nu w_ml_Be_135 w_im_Nu_times w_se_Nu_times hT.1.1 rfl hd_Nu_times rfl (Nat.le_of_ble_eq_true rfl) d_Be_setTens_21 (by decide) (by decide) (fun v σ2 hp => ?_)
      obtain ⟨rfl, k1, k2⟩ := hp
      refine q_iinc_2 d_Be_setTens_24 (by decide) rfl ?_
      refine q_goto (tgt := 10) d_Be_setTens_27 (by decide) ?_
      exact ih (k + 1) (by omega) σ2 (by rw [Int.pow_succ]; exact k1) (fun q h6 h7 => by rw [k2 q h6 h7]; exact f2 q h6 h7) _ (by omega)
  refine q_aload_n d_Be_setTens_0 rfl ?_
  refine q_gr hL.1 pc_Be 7 (by decide) w_fl_Be_38 rfl (by rfl) d_Be_setTens_1 ?_
  refine q_lconst (z := 1) d_Be_setTens_4 (by decide) ?_
  refine q_callV (As := [vl 1]) (q_Nu_setLong l K σ hT (by decide) (by omega)) w_cd_Nu_setLong w_ini_Nu w_ml_Be_114 w_im_Nu_setLong w_se_Nu_setLong hT.1.1 rfl hd_Nu_setLong rfl (Nat.le_of_ble_eq_true rfl) d_Be_setTens_5 (by decide) (by decide) (fun v σ1 hp => ?_)
  obtain ⟨rfl, k1, k2⟩ := hp
  refine q_iconst d_Be_setTens_8 rfl ?_
  refine q_ist_n_2 d_Be_setTens_9 (by decide) rfl ?_
  exact loop n 0 (by omega) σ1 (by rw [Int.pow_zero]; exact k1) k2 _ rfl
