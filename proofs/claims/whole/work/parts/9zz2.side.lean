/-! THE REFERENCE: side, between -/
theorem up_id {σ : q_S} {a k : Nat} {z : Int} (h : σ a k = z) : q_up σ a k z = σ := by
  funext q j
  by_cases hc : q = a ∧ j = k
  · rw [hc.1, hc.2, q_up_self, h]
  · rw [q_up_ne _ _ hc]
theorem kcl.kat {σ : q_S} {m p i M lo hi : Nat} {F : Nat → Nat → Int} {d : Nat → Nat} (h : kcl σ m p i F d M lo hi) : ∃ (C : Int) (j : Nat) (x : Int), kat σ m p i F d M C j x ∧ lo ≤ j ∧ j ≤ hi := by
  obtain ⟨C, j, x, a1, a2, a3, a4, a5, a6⟩ := h
  exact ⟨C, j, x, ⟨a1, a2, a3, a4⟩, a5, a6⟩
theorem kat.kcl {σ : q_S} {m p i M lo hi : Nat} {F : Nat → Nat → Int} {d : Nat → Nat} {C x : Int} {j : Nat} (h : kat σ m p i F d M C j x) (h1 : lo ≤ j) (h2 : j ≤ hi) : kcl σ m p i F d M lo hi := ⟨C, j, x, h.1, h.2.1, h.2.2.1, h.2.2.2, h1, h2⟩
set_option maxHeartbeats 4000000 in
set_option maxRecDepth 100000 in
theorem c_Mo_side (l : Launch) (K : pw_K) {L : q_L} {σ : q_S} {m p n : Nat} {P : Nat → Int} (hL : mL L m) (hp : p < 2) (hd : σ (m + 4) p = (n : Int)) (hP : ∀ k, k ≤ n → rV σ m (9 * p + k) (P k)) (hz : ∀ c, n < c → P c = 0) (hPn : P n ≠ 0) (hn8 : n ≤ 8) (hb : ∀ k, (P k).natAbs ≤ 2147483648) {i : Nat} {u : Int} {ee : Nat} (hu : -9223372036854775808 ≤ u ∧ u < 9223372036854775808) (hee : ee ≤ 62) (hok : ∀ (M : Nat) (F : Nat → Nat → Int) (d : Nat → Nat), gch P n M F d → (i : Int) < vlo F d M - vhi F d M) : q_C l K L y_Mo_side b_Mo_side 6 (some .int) 8 [.ref m, vi p, vi i, vl u, vi ee] σ (fun r σ' => (∃ (M : Nat) (F : Nat → Nat → Int) (d : Nat → Nat), gch P n M F d ∧ r = some (vi (sdo (lk F d 0) (cN F d M) (i : Int) (dy u (ee : Int))))) ∧ isoF (q_up σ m 0 0) σ' m p) := by
  have hLL := hL
  obtain ⟨hM0, hM1, hM2, hM3, hM4, hM5, hM6, hM7, hM8, hM9⟩ := hL
  refine q_start [some (.ref m), some (vi p), some (vi i), some (vl u), none, some (vi ee)] (by decide) (Nat.le_of_ble_eq_true rfl) (fun q h => h) ?_
  refine q_aload_n d_Mo_side_0 rfl ?_
  refine q_iload_n d_Mo_side_1 rfl ?_
  refine q_iload d_Mo_side_2 rfl ?_
  refine q_i2l (by omega) d_Mo_side_4 ?_
  refine q_lconst (z := 0) d_Mo_side_5 (by decide) ?_
  refine q_ldc2 (z := 62) w_kl_Mo_157 (by decide) d_Mo_side_6 ?_
  refine q_callS (As := [vl (ee : Int), vl 0, vl 62]) (q_Mo_in l K L σ (by omega) (by omega) (by omega)) w_cd_Mo_in w_ini_Mo w_ml_Mo_140 w_st_Mo_in hd_Mo_in rfl (Nat.le_of_ble_eq_true rfl) d_Mo_side_9 (by decide) (by decide) (fun v σ9 hp => ?_)
  obtain ⟨rfl, hσ⟩ := hp
  rw [hσ, if_pos (by omega)]
  clear hσ σ9
  refine q_callV (As := [vi p, vi 1]) (c_Mo_stops l K hLL hp hd hP hz hPn hn8 hb) w_cd_Mo_stops w_ini_Mo w_ml_Mo_153 w_im_Mo_stops w_se_Mo_stops hM0 rfl hd_Mo_stops rfl (Nat.le_of_ble_eq_true rfl) d_Mo_side_12 (by decide) (by decide) (fun v σ1 hp => ?_)
  obtain ⟨rfl, ⟨M, F, d, hg, k1, k2, k3⟩, k4⟩ := hp
  have hcn := hg.cnt
  have hlt := hok M F d hg
  have hd1 : 1 ≤ d 0 := by omega
  obtain ⟨-, hmq⟩ := k1 (by omega)
  have hm0 : σ1 m 0 = 0 := by rw [k4.1 m (by omega) (by omega) (by omega) (by omega) (by omega) (by omega) (by omega) (by omega), q_up_self]
  obtain ⟨C, j, x, hka, hj1, hj2⟩ := (k3 i hlt).kat
  refine q_if_ne (tgt := 51) (by decide) d_Mo_side_15 (by decide) (fun c15 => absurd c15 (by decide)) (fun c15 => ?_)
  refine q_aload_n d_Mo_side_18 rfl ?_
  refine q_iload_n d_Mo_side_19 rfl ?_
  refine q_i2l (by omega) d_Mo_side_20 ?_
  refine q_lconst (z := 0) d_Mo_side_21 (by decide) ?_
  refine q_aload_n d_Mo_side_22 rfl ?_
  refine q_gr hM0 pc_Mo 7 (by decide) w_fl_Mo_30 rfl (by rfl) d_Mo_side_23 ?_
  refine q_iload_n d_Mo_side_26 rfl ?_
  refine q_iconst d_Mo_side_27 rfl ?_
  refine q_iand (z := (p : Int)) (and1 hp) d_Mo_side_28 ?_
  refine q_ial (p) (by assumption) (by omega) (by omega) (by omega) d_Mo_side_29 ?_
  refine q_topi k2 ?_
  refine q_iconst d_Mo_side_30 rfl ?_
  refine q_isub d_Mo_side_31 ?_
  refine q_i2l (by omega) d_Mo_side_32 ?_
  refine q_callS (As := [vl (i : Int), vl 0, vl (vlo F d M - vhi F d M - 1)]) (q_Mo_in l K L σ1 (by omega) (by omega) (by omega)) w_cd_Mo_in w_ini_Mo w_ml_Mo_140 w_st_Mo_in hd_Mo_in rfl (Nat.le_of_ble_eq_true rfl) d_Mo_side_33 (by decide) (by decide) (fun v σ9 hp => ?_)
  obtain ⟨rfl, hσ⟩ := hp
  rw [hσ, if_pos (by omega)]
  clear hσ σ9
  refine q_if_ne (tgt := 43) (by decide) d_Mo_side_36 (by decide) (fun c36 => ?_) (fun c36 => absurd c36 (by decide))
  refine q_iconst d_Mo_side_43 rfl ?_
  refine q_iconst d_Mo_side_44 rfl ?_
  refine q_callV (As := [vi 0, vi 3]) (q_Mo_fails0 l K _ hLL) w_cd_Mo_fails w_ini_Mo w_ml_Mo_146 w_im_Mo_fails w_se_Mo_fails hM0 rfl hd_Mo_fails rfl (Nat.le_of_ble_eq_true rfl) d_Mo_side_45 (by decide) (by decide) (fun v σ9 hp => ?_)
  obtain ⟨rfl, hσ⟩ := hp
  rw [hσ, up_id hm0]
  clear hσ σ9
  refine q_if_eq (tgt := 53) (by decide) d_Mo_side_48 (by decide) (fun c48 => ?_) (fun c48 => absurd c48 (by decide))
  refine q_aload_n d_Mo_side_53 rfl ?_
  refine q_iload_n d_Mo_side_54 rfl ?_
  refine q_iload_n d_Mo_side_55 rfl ?_
  refine q_lload_n d_Mo_side_56 rfl ?_
  refine q_iload d_Mo_side_57 rfl ?_
  refine q_callV (As := [vi p, vi i, vl u, vi ee]) (c_Mo_sideOfRoot l K hLL hp (by omega) hg hd1 hmq hka hj1 (by omega) hu hee) w_cd_Mo_sideOfRoot w_ini_Mo w_ml_Mo_168 w_im_Mo_sideOfRoot w_se_Mo_sideOfRoot hM0 rfl hd_Mo_sideOfRoot rfl (Nat.le_of_ble_eq_true rfl) d_Mo_side_59 (by decide) (by decide) (fun v σ2 hp => ?_)
  obtain ⟨rfl, -, k5⟩ := hp
  exact q_iret rfl (⟨⟨M, F, d, hg, rfl⟩, k4.trans (k5.iso hp (by omega))⟩) d_Mo_side_62
set_option maxHeartbeats 4000000 in
set_option maxRecDepth 100000 in
theorem a_Mo_between (l : Launch) (K : pw_K) {L : q_L} {σ : q_S} {m p n M : Nat} {P : Nat → Int} {F : Nat → Nat → Int} {d : Nat → Nat} (hL : mL L m) (hp : p < 2) (hg : gch P n M F d) {u : Int} {ee : Nat} (hu : -9223372036854775808 ≤ u ∧ u < 9223372036854775808) (hee : ee ≤ 62) {v : Int} {ff : Nat} (hv : -9223372036854775808 ≤ v ∧ v < 9223372036854775808) (hff : ff ≤ 62) : ∀ (f k : Nat) (t r0 : Int), t = k → (k : Int) + f = vlo F d M - vhi F d M → r0 = max 0 (min (k : Int) (cN F d M (dy v (ff : Int))) - cN F d M (dy u (ee : Int))) → ∀ (σ1 : q_S), σ1 (m + 7) p = vlo F d M - vhi F d M → (1 ≤ d 0 → mq σ1 m p F d) → (∀ i : Nat, (i : Int) < vlo F d M - vhi F d M → kcl σ1 m p i F d M 44 1400) → isoF σ σ1 m p → q_T l K L R_Mo b_Mo_between 10 (some .int) 8 (fun r σ' => (∃ (M : Nat) (F : Nat → Nat → Int) (d : Nat → Nat), gch P n M F d ∧ r = some (vi (max 0 (cN F d M (dy v (ff : Int)) - cN F d M (dy u (ee : Int)))))) ∧ isoF σ σ' m p) 47 [some (.ref m), some (vi p), some (vl u), none, some (vi ee), some (vl v), none, some (vi ff), some (vi r0), some (vi t)] [] σ1 := by
  have hLL := hL
  obtain ⟨hM0, hM1, hM2, hM3, hM4, hM5, hM6, hM7, hM8, hM9⟩ := hL
  have hcn := hg.cnt
  have hn8 := hg.2.2.1
  obtain ⟨sN, hsN⟩ := hg.rs
  have ru := hsN.rts.2.2 (dy u (ee : Int))
  have rv := hsN.rts.2.2 (dy v (ff : Int))
  have nu := nm_N (lk F d 0) (cN F d M) (dy u (ee : Int))
  have nv := nm_N (lk F d 0) (cN F d M) (dy v (ff : Int))
  intro f
  induction f with
  | zero =>
    intro k t r0 ht hk hr σ1 f1 f2 f3 f4
    refine q_iload d_Mo_between_47 rfl ?_
    refine q_aload_n d_Mo_between_49 rfl ?_
    refine q_gr hM0 pc_Mo 7 (by decide) w_fl_Mo_30 rfl (by rfl) d_Mo_between_50 ?_
    refine q_iload_n d_Mo_between_53 rfl ?_
    refine q_ial (p) (by assumption) (by omega) (by omega) (by omega) d_Mo_between_54 ?_
    refine q_topi f1 ?_
    refine q_icmp_ge (tgt := 101) (by omega) (by omega) d_Mo_between_55 (by decide) (fun c55 => ?_) (fun c55 => absurd c55 (by omega))
    refine q_iload d_Mo_between_101 rfl ?_
    exact q_iret rfl (⟨⟨M, F, d, hg, by rw [hr, show min (k : Int) (cN F d M (dy v (ff : Int))) = cN F d M (dy v (ff : Int)) by omega]⟩, f4⟩) d_Mo_between_103
  | succ f ih =>
    intro k t r0 ht hk hr σ1 f1 f2 f3 f4
    obtain ⟨C, j, x, hka, hj1, hj2⟩ := (f3 k (by omega)).kat
    have hmq := f2 (by omega)
    have hsu := sdo_r (i := (k : Int)) hsN (dy u (ee : Int))
    have hsv := sdo_r (i := (k : Int)) hsN (dy v (ff : Int))
    refine q_iload d_Mo_between_47 rfl ?_
    refine q_aload_n d_Mo_between_49 rfl ?_
    refine q_gr hM0 pc_Mo 7 (by decide) w_fl_Mo_30 rfl (by rfl) d_Mo_between_50 ?_
    refine q_iload_n d_Mo_between_53 rfl ?_
    refine q_ial (p) (by assumption) (by omega) (by omega) (by omega) d_Mo_between_54 ?_
    refine q_topi f1 ?_
    refine q_icmp_ge (tgt := 101) (by omega) (by omega) d_Mo_between_55 (by decide) (fun c55 => absurd c55 (by omega)) (fun c55 => ?_)
    refine q_iload d_Mo_between_58 rfl ?_
    refine q_aload_n d_Mo_between_60 rfl ?_
    refine q_iload_n d_Mo_between_61 rfl ?_
    refine q_iload d_Mo_between_62 rfl ?_
    refine q_topi ht ?_
    refine q_lload_n d_Mo_between_64 rfl ?_
    refine q_iload d_Mo_between_65 rfl ?_
    refine q_callV (As := [vi p, vi k, vl u, vi ee]) (c_Mo_sideOfRoot l K hLL hp (by omega) hg (by omega) hmq hka hj1 (by omega) hu hee) w_cd_Mo_sideOfRoot w_ini_Mo w_ml_Mo_168 w_im_Mo_sideOfRoot w_se_Mo_sideOfRoot hM0 rfl hd_Mo_sideOfRoot rfl (Nat.le_of_ble_eq_true rfl) d_Mo_between_67 (by decide) (by decide) (fun v σ2 hp => ?_)
    obtain ⟨rfl, ⟨C2, x2, b1⟩, b2⟩ := hp
    have g1 : σ2 (m + 7) p = vlo F d M - vhi F d M := by rw [b2.1 (m + 7) (by omega) (by omega) (by omega) (by omega) (by omega) (by omega) (by omega)]; exact f1
    have g2 := b2.mq hp (by omega) hp hmq
    have g3 : ∀ i : Nat, (i : Int) < vlo F d M - vhi F d M → kcl σ2 m p i F d M 44 1400 := fun i hi => by
      by_cases e9 : i = k
      · rw [e9]; exact b1.kcl (by omega) (by omega)
      · exact b2.cl hp hp (by omega) (by omega) (Or.inr e9) (f3 i hi)
    have g4 := f4.trans (b2.iso hp (by omega))
    generalize sdo (lk F d 0) (cN F d M) (k : Int) (dy u (ee : Int)) = su at *
    refine q_if_le (tgt := 91) (by omega) d_Mo_between_70 (by decide) (fun cu => ?_) (fun cu => ?_)
    · refine q_iconst d_Mo_between_91 rfl ?_
      refine q_iadd d_Mo_between_92 ?_
      refine q_ist_8 d_Mo_between_93 (by decide) rfl ?_
      refine q_iinc_9 d_Mo_between_95 (by decide) rfl ?_
      refine q_goto (tgt := 47) d_Mo_between_98 (by decide) ?_
      exact ih (k + 1) _ _ (by omega) (by omega) (by omega) σ2 g1 (fun _ => g2) g3 g4
    · refine q_aload_n d_Mo_between_73 rfl ?_
      refine q_iload_n d_Mo_between_74 rfl ?_
      refine q_iload d_Mo_between_75 rfl ?_
      refine q_topi ht ?_
      refine q_lload d_Mo_between_77 rfl ?_
      refine q_iload d_Mo_between_79 rfl ?_
      refine q_callV (As := [vi p, vi k, vl v, vi ff]) (c_Mo_sideOfRoot l K hLL hp (by omega) hg (by omega) g2 b1 (by omega) (by omega) hv hff) w_cd_Mo_sideOfRoot w_ini_Mo w_ml_Mo_168 w_im_Mo_sideOfRoot w_se_Mo_sideOfRoot hM0 rfl hd_Mo_sideOfRoot rfl (Nat.le_of_ble_eq_true rfl) d_Mo_between_81 (by decide) (by decide) (fun v σ3 hp => ?_)
      obtain ⟨rfl, ⟨C3, x3, b3⟩, b4⟩ := hp
      have q1 : σ3 (m + 7) p = vlo F d M - vhi F d M := by rw [b4.1 (m + 7) (by omega) (by omega) (by omega) (by omega) (by omega) (by omega) (by omega)]; exact g1
      have q2 := b4.mq hp (by omega) hp g2
      have q3 : ∀ i : Nat, (i : Int) < vlo F d M - vhi F d M → kcl σ3 m p i F d M 44 1400 := fun i hi => by
        by_cases e9 : i = k
        · rw [e9]; exact b3.kcl (by omega) (by omega)
        · exact b4.cl hp hp (by omega) (by omega) (Or.inr e9) (g3 i hi)
      have q4 := g4.trans (b4.iso hp (by omega))
      generalize sdo (lk F d 0) (cN F d M) (k : Int) (dy v (ff : Int)) = sv at *
      refine q_if_gt (tgt := 91) (by omega) d_Mo_between_84 (by decide) (fun cv => ?_) (fun cv => ?_)
      · refine q_iconst d_Mo_between_91 rfl ?_
        refine q_iadd d_Mo_between_92 ?_
        refine q_ist_8 d_Mo_between_93 (by decide) rfl ?_
        refine q_iinc_9 d_Mo_between_95 (by decide) rfl ?_
        refine q_goto (tgt := 47) d_Mo_between_98 (by decide) ?_
        exact ih (k + 1) _ _ (by omega) (by omega) (by omega) σ3 q1 (fun _ => q2) q3 q4
      · refine q_iconst d_Mo_between_87 rfl ?_
        refine q_goto (tgt := 92) d_Mo_between_88 (by decide) ?_
        refine q_iadd d_Mo_between_92 ?_
        refine q_ist_8 d_Mo_between_93 (by decide) rfl ?_
        refine q_iinc_9 d_Mo_between_95 (by decide) rfl ?_
        refine q_goto (tgt := 47) d_Mo_between_98 (by decide) ?_
        exact ih (k + 1) _ _ (by omega) (by omega) (by omega) σ3 q1 (fun _ => q2) q3 q4
set_option maxHeartbeats 4000000 in
set_option maxRecDepth 100000 in
theorem c_Mo_between (l : Launch) (K : pw_K) {L : q_L} {σ : q_S} {m p n : Nat} {P : Nat → Int} (hL : mL L m) (hp : p < 2) (hd : σ (m + 4) p = (n : Int)) (hP : ∀ k, k ≤ n → rV σ m (9 * p + k) (P k)) (hz : ∀ c, n < c → P c = 0) (hPn : P n ≠ 0) (hn8 : n ≤ 8) (hb : ∀ k, (P k).natAbs ≤ 2147483648) {u : Int} {ee : Nat} (hu : -9223372036854775808 ≤ u ∧ u < 9223372036854775808) (hee : ee ≤ 62) {v : Int} {ff : Nat} (hv : -9223372036854775808 ≤ v ∧ v < 9223372036854775808) (hff : ff ≤ 62) : q_C l K L y_Mo_between b_Mo_between 10 (some .int) 8 [.ref m, vi p, vl u, vi ee, vl v, vi ff] σ (fun r σ' => (∃ (M : Nat) (F : Nat → Nat → Int) (d : Nat → Nat), gch P n M F d ∧ r = some (vi (max 0 (cN F d M (dy v (ff : Int)) - cN F d M (dy u (ee : Int)))))) ∧ isoF (q_up σ m 0 0) σ' m p) := by
  have hLL := hL
  obtain ⟨hM0, hM1, hM2, hM3, hM4, hM5, hM6, hM7, hM8, hM9⟩ := hL
  refine q_start [some (.ref m), some (vi p), some (vl u), none, some (vi ee), some (vl v), none, some (vi ff), none, none] (by decide) (Nat.le_of_ble_eq_true rfl) (fun q h => h) ?_
  refine q_aload_n d_Mo_between_0 rfl ?_
  refine q_iload_n d_Mo_between_1 rfl ?_
  refine q_iload d_Mo_between_2 rfl ?_
  refine q_i2l (by omega) d_Mo_between_4 ?_
  refine q_lconst (z := 0) d_Mo_between_5 (by decide) ?_
  refine q_ldc2 (z := 62) w_kl_Mo_157 (by decide) d_Mo_between_6 ?_
  refine q_callS (As := [vl (ee : Int), vl 0, vl 62]) (q_Mo_in l K L σ (by omega) (by omega) (by omega)) w_cd_Mo_in w_ini_Mo w_ml_Mo_140 w_st_Mo_in hd_Mo_in rfl (Nat.le_of_ble_eq_true rfl) d_Mo_between_9 (by decide) (by decide) (fun v σ9 hp => ?_)
  obtain ⟨rfl, hσ⟩ := hp
  rw [hσ, if_pos (by omega)]
  clear hσ σ9
  refine q_if_eq (tgt := 32) (by decide) d_Mo_between_12 (by decide) (fun c12 => absurd c12 (by decide)) (fun c12 => ?_)
  refine q_iload d_Mo_between_15 rfl ?_
  refine q_i2l (by omega) d_Mo_between_17 ?_
  refine q_lconst (z := 0) d_Mo_between_18 (by decide) ?_
  refine q_ldc2 (z := 62) w_kl_Mo_157 (by decide) d_Mo_between_19 ?_
  refine q_callS (As := [vl (ff : Int), vl 0, vl 62]) (q_Mo_in l K L σ (by omega) (by omega) (by omega)) w_cd_Mo_in w_ini_Mo w_ml_Mo_140 w_st_Mo_in hd_Mo_in rfl (Nat.le_of_ble_eq_true rfl) d_Mo_between_22 (by decide) (by decide) (fun v σ9 hp => ?_)
  obtain ⟨rfl, hσ⟩ := hp
  rw [hσ, if_pos (by omega)]
  clear hσ σ9
  refine q_if_eq (tgt := 32) (by decide) d_Mo_between_25 (by decide) (fun c25 => absurd c25 (by decide)) (fun c25 => ?_)
  refine q_iconst d_Mo_between_28 rfl ?_
  refine q_goto (tgt := 33) d_Mo_between_29 (by decide) ?_
  refine q_callV (As := [vi p, vi 1]) (c_Mo_stops l K hLL hp hd hP hz hPn hn8 hb) w_cd_Mo_stops w_ini_Mo w_ml_Mo_153 w_im_Mo_stops w_se_Mo_stops hM0 rfl hd_Mo_stops rfl (Nat.le_of_ble_eq_true rfl) d_Mo_between_33 (by decide) (by decide) (fun v σ1 hp => ?_)
  obtain ⟨rfl, ⟨M, F, d, hg, k1, k2, k3⟩, k4⟩ := hp
  have hcn := hg.cnt
  refine q_if_eq (tgt := 41) (by decide) d_Mo_between_36 (by decide) (fun c36 => ?_) (fun c36 => absurd c36 (by decide))
  refine q_iconst d_Mo_between_41 rfl ?_
  refine q_ist_8 d_Mo_between_42 (by decide) rfl ?_
  refine q_iconst d_Mo_between_44 rfl ?_
  refine q_ist_9 d_Mo_between_45 (by decide) rfl ?_
  obtain ⟨sN, hsN⟩ := hg.rs
  have ru := hsN.rts.2.2 (dy u (ee : Int))
  have nu := nm_N (lk F d 0) (cN F d M) (dy u (ee : Int))
  have rv := hsN.rts.2.2 (dy v (ff : Int))
  have nv := nm_N (lk F d 0) (cN F d M) (dy v (ff : Int))
  refine a_Mo_between l K hLL hp hg hu hee hv hff (vlo F d M - vhi F d M).toNat 0 0 0 rfl (by omega) (by omega) σ1 k2 (fun h => (k1 (by omega)).2) (fun i hi => ?_) k4
  obtain ⟨C, j, x, hka, hj1, hj2⟩ := (k3 i hi).kat
  exact hka.kcl hj1 (by omega)
