/-! POLY: lower, leadSign, copy; POINT: place; BENCH: setTens -/
/-- the coefficients' numbers -/
def pV (σ : q_S) (p n w : Nat) (P : Nat → Int) : Prop := ∀ k, k < n → nV σ (p + 2 + 2 * k) w (P k)
theorem pV.mv {σ σ' : q_S} {p n w : Nat} {P : Nat → Int} (h : pV σ p n w P) (e : ∀ q, p + 2 ≤ q → q < p + 2 + 2 * n → σ' q = σ q) : pV σ' p n w P := fun k hk => (h k hk).mv (e _ (by omega) (by omega)) (e _ (by omega) (by omega))
set_option maxHeartbeats 4000000 in
set_option maxRecDepth 100000 in
theorem q_Py_lower (l : Launch) (K : pw_K) {L : q_L} {σ : q_S} {p N w F : Nat} {f : Int} {P : Nat → Int} (hL : pL L p N w) (hN0 : 0 < N) (hf : f = (F : Int) - 1) (hF : F ≤ N) (hP : ∀ k, k < F → nV σ (p + 2 + 2 * k) w (P k)) : q_C l K L y_Py_lower b_Py_lower 2 none 1 [.ref p, vi f] σ (fun v σ' => v = none ∧ σ' p 1 = (top P F : Int) - 1 ∧ ∀ q, q ≠ p → σ' q = σ q) := by
  obtain ⟨hp0, ⟨g, hg1, hg2⟩, hpn, hN⟩ := hL
  refine q_start [some (.ref p), some (vi f)] (by decide) (Nat.le_of_ble_eq_true rfl) (fun q h => h) ?_
  have loop : ∀ (k : Nat), k ≤ F → ∀ (σ1 : q_S), σ1 p 1 = (k : Int) - 1 → top P k = top P F → (∀ q, q ≠ p → σ1 q = σ q) → q_T l K L R_Py b_Py_lower 2 none 1 (fun v σ' => v = none ∧ σ' p 1 = (top P F : Int) - 1 ∧ ∀ q, q ≠ p → σ' q = σ q) 15 [some (.ref p), some (vi f)] [] σ1 := by
    intro k
    induction k with
    | zero =>
      intro hk σ1 f1 f2 f3
      refine q_aload_n d_Py_lower_15 rfl ?_
      refine q_gi (by assumption) pc_Py 1 (by decide) w_fl_Py_18 rfl (by rfl) d_Py_lower_16 ?_
      refine q_topi f1 ?_
      refine q_if_lt (tgt := 50) (by omega) d_Py_lower_19 (by decide) (fun c19 => ?_) (fun c19 => absurd c19 (by omega))
      exact q_vret rfl (⟨rfl, by rw [f1, ← f2]; rfl, f3⟩) d_Py_lower_50
    | succ k ih =>
      intro hk σ1 f1 f2 f3
      refine q_aload_n d_Py_lower_15 rfl ?_
      refine q_gi (by assumption) pc_Py 1 (by decide) w_fl_Py_18 rfl (by rfl) d_Py_lower_16 ?_
      refine q_topi f1 ?_
      refine q_if_lt (tgt := 50) (by omega) d_Py_lower_19 (by decide) (fun c19 => absurd c19 (by omega)) (fun c19 => ?_)
      refine q_aload_n d_Py_lower_22 rfl ?_
      refine q_gr (by assumption) pc_Py 0 (by decide) w_fl_Py_9 rfl (by rfl) d_Py_lower_23 ?_
      refine q_aload_n d_Py_lower_26 rfl ?_
      refine q_gi (by assumption) pc_Py 1 (by decide) w_fl_Py_18 rfl (by rfl) d_Py_lower_27 ?_
      refine q_topi f1 ?_
      refine q_aal (k) 4 (b := p + 2 + 2 * (k)) rfl hg1 (by omega) (by omega) (by omega) (hg2 _ (by omega)) d_Py_lower_30 ?_
      refine q_gi (hpn k (by omega)).1.1 pc_Nu 2 (by decide) w_fl_Py_36 rfl (by rfl) d_Py_lower_31 ?_
      refine q_topi (show _ = (P k).sign by rw [f3 _ (by omega)]; exact (hP k (by omega)).sgn) ?_
      refine q_if_ne (tgt := 50) (by have := sg3 (P k); omega) d_Py_lower_34 (by decide) (fun cz => ?_) (fun cz => ?_)
      · exact q_vret rfl (⟨rfl, by rw [f1, ← f2, show top P (k + 1) = k + 1 by rw [top, if_neg (fun h => cz (by rw [h]; rfl))]], f3⟩) d_Py_lower_50
      · refine q_aload_n d_Py_lower_37 rfl ?_
        refine q_dup d_Py_lower_38 rfl ?_
        refine q_gi (by assumption) pc_Py 1 (by decide) w_fl_Py_18 rfl (by rfl) d_Py_lower_39 ?_
        refine q_topi f1 ?_
        refine q_iconst d_Py_lower_42 rfl ?_
        refine q_isub d_Py_lower_43 ?_
        refine q_pi (by assumption) pc_Py 1 (by decide) w_fl_Py_18 rfl rfl rfl rfl (by rfl) d_Py_lower_44 ?_
        refine q_goto (tgt := 15) d_Py_lower_47 (by decide) ?_
        exact ih (by omega) _ (by rw [q_up_self]; omega) (by rw [← f2, show top P (k + 1) = top P k by rw [top, if_pos (sg0 cz)]]) (fun q hq => by rw [q_up_a _ _ hq]; exact f3 q hq)
  refine q_aload_n d_Py_lower_0 rfl ?_
  refine q_iload_n d_Py_lower_1 rfl ?_
  refine q_aload_n d_Py_lower_2 rfl ?_
  refine q_gr (by assumption) pc_Py 0 (by decide) w_fl_Py_9 rfl (by rfl) d_Py_lower_3 ?_
  refine q_len 4 rfl hg1 d_Py_lower_6 ?_
  refine q_iconst d_Py_lower_7 rfl ?_
  refine q_isub d_Py_lower_8 ?_
  refine q_mmin (by omega) (by omega) w_ml_Py_22 d_Py_lower_9 (by decide) (Nat.le_of_ble_eq_true rfl) ?_
  refine q_topi (show _ = (F : Int) - 1 by omega) ?_
  refine q_pi (by assumption) pc_Py 1 (by decide) w_fl_Py_18 rfl rfl rfl rfl (by rfl) d_Py_lower_12 ?_
  exact loop F (Nat.le_refl F) _ (q_up_self _ _ _ _) rfl (fun q hq => q_up_a _ _ hq)
set_option maxHeartbeats 4000000 in
set_option maxRecDepth 100000 in
theorem c_Py_leadSign (l : Launch) (K : pw_K) {L : q_L} {σ : q_S} {p N w n : Nat} {P : Nat → Int} (hL : pL L p N w) (hn : n ≤ N) (hd : σ p 1 = (n : Int) - 1) (hP : ∀ k, k < n → nV σ (p + 2 + 2 * k) w (P k)) : q_C l K L y_Py_leadSign b_Py_leadSign 1 (some .int) 0 [.ref p] σ (fun v σ' => v = some (vi (if n = 0 then 0 else (P (n - 1)).sign)) ∧ σ' = σ) := by
  obtain ⟨hp0, ⟨g, hg1, hg2⟩, hpn, hN⟩ := hL
  refine q_start [some (.ref p)] (by decide) (Nat.le_of_ble_eq_true rfl) (fun q h => h) ?_
  refine q_aload_n d_Py_leadSign_0 rfl ?_
  refine q_gi (by assumption) pc_Py 1 (by decide) w_fl_Py_18 rfl (by rfl) d_Py_leadSign_1 ?_
  refine q_topi hd ?_
  refine q_if_ge (tgt := 11) (by omega) d_Py_leadSign_4 (by decide) (fun c0 => ?_) (fun c0 => ?_)
  · refine q_aload_n d_Py_leadSign_11 rfl ?_
    refine q_gr (by assumption) pc_Py 0 (by decide) w_fl_Py_9 rfl (by rfl) d_Py_leadSign_12 ?_
    refine q_aload_n d_Py_leadSign_15 rfl ?_
    refine q_gi (by assumption) pc_Py 1 (by decide) w_fl_Py_18 rfl (by rfl) d_Py_leadSign_16 ?_
    refine q_topi hd ?_
    refine q_aal (n - 1) 4 (b := p + 2 + 2 * (n - 1)) rfl hg1 (by omega) (by omega) (by omega) (hg2 _ (by omega)) d_Py_leadSign_19 ?_
    refine q_gi (hpn (n - 1) (by omega)).1.1 pc_Nu 2 (by decide) w_fl_Py_36 rfl (by rfl) d_Py_leadSign_20 ?_
    refine q_topi (hP (n - 1) (by omega)).sgn ?_
    exact q_iret rfl (⟨by rw [if_neg (by omega)], rfl⟩) d_Py_leadSign_23
  · refine q_iconst d_Py_leadSign_7 rfl ?_
    refine q_goto (tgt := 23) d_Py_leadSign_8 (by decide) ?_
    exact q_iret rfl (⟨by rw [if_pos (by omega)], rfl⟩) d_Py_leadSign_23
set_option maxHeartbeats 4000000 in
set_option maxRecDepth 100000 in
theorem c_Py_copy (l : Launch) (K : pw_K) {L : q_L} {σ : q_S} {p r N M w v n : Nat} {P : Nat → Int} (hL : pL L p N w) (hR : pL L r M v) (hN0 : 0 < N) (hn : n ≤ N) (hnM : n ≤ M) (hdj : p + 2 + 2 * N ≤ r ∨ r + 2 + 2 * M ≤ p) (hd : σ r 1 = (n : Int) - 1) (hP : ∀ k, k < n → nV σ (r + 2 + 2 * k) v (P k)) (hb : ∀ k, k < n → ((P k).natAbs : Int) < 2147483648 ^ w) : q_C l K L y_Py_copy b_Py_copy 3 none 2 [.ref p, .ref r] σ (fun v σ' => v = none ∧ σ' p 1 = (top P n : Int) - 1 ∧ (∀ k, k < n → nV σ' (p + 2 + 2 * k) w (P k)) ∧ (∀ q, (q < p ∨ p + 2 + 2 * n ≤ q) → σ' q = σ q)) := by
  have hL0 := hL
  obtain ⟨hp0, ⟨g, hg1, hg2⟩, hpn, hN⟩ := hL
  obtain ⟨hr0, ⟨gg, gg1, gg2⟩, hrn, hM⟩ := hR
  refine q_start [some (.ref p), some (.ref r), none] (by decide) (Nat.le_of_ble_eq_true rfl) (fun q h => h) ?_
  have loop : ∀ (d k : Nat), k + d = n → ∀ (σ1 : q_S), σ1 p 1 = (n : Int) - 1 → (∀ i, i < k → nV σ1 (p + 2 + 2 * i) w (P i)) → (∀ q, q ≠ p → (q < p + 2 ∨ p + 2 + 2 * k ≤ q) → σ1 q = σ q) → ∀ t : Int, t = k → q_T l K L R_Py b_Py_copy 3 none 2 (fun v σ' => v = none ∧ σ' p 1 = (top P n : Int) - 1 ∧ (∀ k, k < n → nV σ' (p + 2 + 2 * k) w (P k)) ∧ (∀ q, (q < p ∨ p + 2 + 2 * n ≤ q) → σ' q = σ q)) 20 [some (.ref p), some (.ref r), some (vi t)] [] σ1 := by
    intro d
    induction d with
    | zero =>
      intro k hk σ1 f1 f2 f3 t ht
      refine q_iload_n d_Py_copy_20 rfl ?_
      refine q_aload_n d_Py_copy_21 rfl ?_
      refine q_gi (by assumption) pc_Py 1 (by decide) w_fl_Py_18 rfl (by rfl) d_Py_copy_22 ?_
      refine q_topi f1 ?_
      refine q_icmp_gt (tgt := 49) (by omega) (by omega) d_Py_copy_25 (by decide) (fun c25 => ?_) (fun c25 => absurd c25 (by omega))
      refine q_aload_n d_Py_copy_49 rfl ?_
      refine q_aload_n d_Py_copy_50 rfl ?_
      refine q_gi (by assumption) pc_Py 1 (by decide) w_fl_Py_18 rfl (by rfl) d_Py_copy_51 ?_
      refine q_topi f1 ?_
      refine q_callV (As := [vi ((n : Int) - 1)]) (q_Py_lower l K (F := n) (P := P) hL0 (by omega) rfl (by omega) (fun i hi => f2 i (by omega))) w_cd_Py_lower w_ini_Py w_ml_Py_32 w_im_Py_lower w_se_Py_lower hp0 rfl hd_Py_lower rfl (Nat.le_of_ble_eq_true rfl) d_Py_copy_54 (by decide) (by decide) (fun v σ2 hp => ?_)
      obtain ⟨rfl, k1, k2⟩ := hp
      exact q_vret rfl (⟨rfl, k1, fun i hi => (f2 i (by omega)).mv (k2 _ (by omega)) (k2 _ (by omega)), fun q hq => by rw [k2 q (by omega)]; exact f3 q (by omega) (by omega)⟩) d_Py_copy_57
    | succ d ih =>
      intro k hk σ1 f1 f2 f3 t ht
      refine q_iload_n d_Py_copy_20 rfl ?_
      refine q_aload_n d_Py_copy_21 rfl ?_
      refine q_gi (by assumption) pc_Py 1 (by decide) w_fl_Py_18 rfl (by rfl) d_Py_copy_22 ?_
      refine q_topi f1 ?_
      refine q_icmp_gt (tgt := 49) (by omega) (by omega) d_Py_copy_25 (by decide) (fun c25 => absurd c25 (by omega)) (fun c25 => ?_)
      refine q_aload_n d_Py_copy_28 rfl ?_
      refine q_gr hp0 pc_Py 0 (by decide) w_fl_Py_9 rfl (by rfl) d_Py_copy_29 ?_
      refine q_iload_n d_Py_copy_32 rfl ?_
      refine q_aal (k) 4 (b := p + 2 + 2 * (k)) rfl hg1 (by omega) (by omega) (by omega) (hg2 _ (by omega)) d_Py_copy_33 ?_
      refine q_aload_n d_Py_copy_34 rfl ?_
      refine q_gr hr0 pc_Py 0 (by decide) w_fl_Py_9 rfl (by rfl) d_Py_copy_35 ?_
      refine q_iload_n d_Py_copy_38 rfl ?_
      refine q_aal (k) 4 (b := r + 2 + 2 * k) rfl gg1 (by omega) (by omega) (by omega) (gg2 _ (by omega)) d_Py_copy_39 ?_
      refine q_callV (As := [.ref (r + 2 + 2 * k)]) (c_Nu_copy l K (hpn k (by omega)) (hrn k (by omega)) (by omega) ((hP k (by omega)).mv (f3 _ (by omega) (by omega)) (f3 _ (by omega) (by omega))) (hb k (by omega))) w_cd_Nu_copy w_ini_Nu w_ml_Py_28 w_im_Nu_copy w_se_Nu_copy (hpn k (by omega)).1.1 rfl hd_Nu_copy rfl (Nat.le_of_ble_eq_true rfl) d_Py_copy_40 (by decide) (by decide) (fun v σ2 hp => ?_)
      obtain ⟨rfl, k1, k2⟩ := hp
      refine q_iinc_2 d_Py_copy_43 (by decide) rfl ?_
      refine q_goto (tgt := 20) d_Py_copy_46 (by decide) ?_
      exact ih (k + 1) (by omega) σ2 (by rw [k2 _ (by omega) (by omega)]; exact f1) (fun i hi => if e : i = k then by subst e; exact k1 else (f2 i (by omega)).mv (k2 _ (by omega) (by omega)) (k2 _ (by omega) (by omega))) (fun q h6 h7 => by rw [k2 q (by omega) (by omega)]; exact f3 q h6 (by omega)) _ (by omega)
  refine q_aload_n d_Py_copy_0 rfl ?_
  refine q_aload_n d_Py_copy_1 rfl ?_
  refine q_gi hr0 pc_Py 1 (by decide) w_fl_Py_18 rfl (by rfl) d_Py_copy_2 ?_
  refine q_topi hd ?_
  refine q_aload_n d_Py_copy_5 rfl ?_
  refine q_gr hp0 pc_Py 0 (by decide) w_fl_Py_9 rfl (by rfl) d_Py_copy_6 ?_
  refine q_len 4 rfl hg1 d_Py_copy_9 ?_
  refine q_iconst d_Py_copy_10 rfl ?_
  refine q_isub d_Py_copy_11 ?_
  refine q_mmin (by omega) (by omega) w_ml_Py_22 d_Py_copy_12 (by decide) (Nat.le_of_ble_eq_true rfl) ?_
  refine q_topi (show _ = (n : Int) - 1 by omega) ?_
  refine q_pi hp0 pc_Py 1 (by decide) w_fl_Py_18 rfl rfl rfl rfl (by rfl) d_Py_copy_15 ?_
  refine q_iconst d_Py_copy_18 rfl ?_
  refine q_ist_n_2 d_Py_copy_19 (by decide) rfl ?_
  exact loop n 0 (by omega) _ (q_up_self _ _ _ _) (fun i hi => by omega) (fun q h6 h7 => q_up_a _ _ h6) _ rfl
set_option maxHeartbeats 4000000 in
set_option maxRecDepth 100000 in
theorem c_Pt_place (l : Launch) (K : pw_K) {L : q_L} {σ : q_S} {x a w u : Nat} {z lev : Int} (hL : ptL L x) (hLa : nL L a w) (hd : a + 1 < x ∨ x + 2 < a) (ha : nV σ a w z) (hz : (z.natAbs : Int) < 2147483648 ^ u) (hu : u + (-lev).toNat / 31 + 1 ≤ 48) (hl : -100000 < lev ∧ lev < 100000) : q_C l K L y_Pt_place b_Pt_place 3 none 3 [.ref x, .ref a, vi lev] σ (fun v σ' => v = none ∧ nV σ' (x + 1) 48 (if 0 ≤ lev then z else z * 2 ^ (-lev).toNat) ∧ σ' x 1 = max 0 lev ∧ ∀ q, q ≠ x → q ≠ x + 1 → q ≠ x + 2 → σ' q = σ q) := by
  refine q_start [some (.ref x), some (.ref a), some (vi lev)] (by decide) (Nat.le_of_ble_eq_true rfl) (fun q h => h) ?_
  refine q_aload_n d_Pt_place_0 rfl ?_
  refine q_gr hL.1 pc_Pt 0 (by decide) w_fl_Pt_12 rfl (by rfl) d_Pt_place_1 ?_
  refine q_aload_n d_Pt_place_4 rfl ?_
  refine q_callV (As := [.ref a]) (c_Nu_copy l K hL.2 hLa (by omega) ha (by have := ip_le (B := 2147483648) (by decide) (show u ≤ 48 by omega); omega)) w_cd_Nu_copy w_ini_Nu w_ml_Pt_26 w_im_Nu_copy w_se_Nu_copy hL.2.1.1 rfl hd_Nu_copy rfl (Nat.le_of_ble_eq_true rfl) d_Pt_place_5 (by decide) (by decide) (fun v σ1 hp => ?_)
  obtain ⟨rfl, k1, k2⟩ := hp
  refine q_aload_n d_Pt_place_8 rfl ?_
  refine q_iconst d_Pt_place_9 rfl ?_
  refine q_iload_n d_Pt_place_10 rfl ?_
  refine q_mmax (by omega) (by omega) w_ml_Pt_30 d_Pt_place_11 (by decide) (Nat.le_of_ble_eq_true rfl) ?_
  refine q_pi hL.1 pc_Pt 1 (by decide) w_fl_Pt_22 rfl rfl rfl rfl (by rfl) d_Pt_place_14 ?_
  refine q_iload_n d_Pt_place_17 rfl ?_
  refine q_if_ge (tgt := 30) (by omega) d_Pt_place_18 (by decide) (fun cl => ?_) (fun cl => ?_)
  · exact q_vret rfl (⟨rfl, by rw [if_pos cl]; exact k1.mv (q_up_a _ _ (by omega)) (q_up_a _ _ (by omega)), q_up_self _ _ _ _, fun q h6 h7 h8 => by rw [q_up_a _ _ h6]; exact k2 q h7 h8⟩) d_Pt_place_30
  · refine q_aload_n d_Pt_place_21 rfl ?_
    refine q_gr hL.1 pc_Pt 0 (by decide) w_fl_Pt_12 rfl (by rfl) d_Pt_place_22 ?_
    refine q_iload_n d_Pt_place_25 rfl ?_
    refine q_ineg d_Pt_place_26 ?_
    refine q_topi (show _ = (((-lev).toNat : Nat) : Int) by omega) ?_
    refine q_callV (As := [vi (((-lev).toNat : Nat) : Int)]) (c_Nu_shiftUp l K (u := u) (p := (-lev).toNat) hL.2 (k1.mv (q_up_a _ _ (by omega)) (q_up_a _ _ (by omega))) hz hu) w_cd_Nu_shiftUp w_ini_Nu w_ml_Pt_36 w_im_Nu_shiftUp w_se_Nu_shiftUp hL.2.1.1 rfl hd_Nu_shiftUp rfl (Nat.le_of_ble_eq_true rfl) d_Pt_place_27 (by decide) (by decide) (fun v σ2 hp => ?_)
    obtain ⟨rfl, k3, k4⟩ := hp
    exact q_vret rfl (⟨rfl, by rw [if_neg cl]; exact k3, by rw [k4 _ (by omega) (by omega), q_up_self], fun q h6 h7 h8 => by rw [k4 q h7 h8, q_up_a _ _ h6]; exact k2 q h7 h8⟩) d_Pt_place_30
