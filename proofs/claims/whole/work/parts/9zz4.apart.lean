/-! THE REFERENCE: apart -/
theorem aps_10 {q : Rat → Rat} {N : Rat → Int} {k r : Int} (hk : k ≤ 1) (h : aps q N 1 r) : aps q N k r := by
  have : r = 0 := by
    rcases Int.lt_or_le 0 r with h1 | h1
    · obtain ⟨i, h2, h3, -⟩ := h.2.2 h1; omega
    · have := h.1; omega
  subst this
  exact aps_0 hk
theorem apt_alk {q : Rat → Rat} {N : Rat → Int} {c i nn : Int} (h : rts q N c) (h0 : 0 ≤ nn) (h1 : ¬ alk q N i nn) (h2 : 0 < nn → alk q N i (nn - 1)) : apt q N i nn := by
  refine ⟨h0, fun m hm z z1 z2 => h1 ?_, h2⟩
  exact ⟨_, z1.down h hm, z2.down h hm⟩
set_option maxHeartbeats 4000000 in
set_option maxRecDepth 100000 in
theorem a_Mo_apart (l : Launch) (K : pw_K) {L : q_L} {σ : q_S} {m p n M : Nat} {P : Nat → Int} {F : Nat → Nat → Int} {d : Nat → Nat} (hL : mL L m) (hp : p < 2) (hg : gch P n M F d) : ∀ (f k : Nat) (t r0 : Int), t = k → 1 ≤ k → (k : Int) + f = max 1 (vlo F d M - vhi F d M) → aps (lk F d 0) (cN F d M) k r0 → r0 ≤ 1000 → ∀ (σ1 : q_S), σ1 (m + 7) p = vlo F d M - vhi F d M → (1 ≤ d 0 → mq σ1 m p F d) → (∀ i : Nat, (i : Int) < vlo F d M - vhi F d M → kcl σ1 m p i F d M 44 1980) → isoF σ σ1 m p → q_T l K L R_Mo b_Mo_apart 5 (some .int) 8 (fun r σ' => (∃ (M : Nat) (F : Nat → Nat → Int) (d : Nat → Nat), gch P n M F d ∧ ∃ rr : Int, r = some (vi rr) ∧ aps (lk F d 0) (cN F d M) (vlo F d M - vhi F d M) rr) ∧ isoF σ σ' m p) 15 [some (.ref m), some (vi p), some (vi r0), some (vi t), none] [] σ1 := by
  have hLL := hL
  obtain ⟨hM0, hM1, hM2, hM3, hM4, hM5, hM6, hM7, hM8, hM9⟩ := hL
  have hcn := hg.cnt
  have hn8 := hg.2.2.1
  obtain ⟨sN, hsN⟩ := hg.rs
  intro f
  induction f with
  | zero =>
    intro k t r0 ht hk1 hk hap hr σ1 f1 f2 f3 f4
    have hr00 := hap.1
    refine q_iload_n d_Mo_apart_15 rfl ?_
    refine q_aload_n d_Mo_apart_16 rfl ?_
    refine q_gr hM0 pc_Mo 7 (by decide) w_fl_Mo_30 rfl (by rfl) d_Mo_apart_17 ?_
    refine q_iload_n d_Mo_apart_20 rfl ?_
    refine q_ial (p) (by assumption) (by omega) (by omega) (by omega) d_Mo_apart_21 ?_
    refine q_topi f1 ?_
    refine q_icmp_ge (tgt := 64) (by omega) (by omega) d_Mo_apart_22 (by decide) (fun c22 => ?_) (fun c22 => absurd c22 (by omega))
    refine q_iload_n d_Mo_apart_64 rfl ?_
    exact q_iret rfl (⟨⟨M, F, d, hg, r0, rfl, by
          rcases Int.lt_or_le 1 (vlo F d M - vhi F d M) with h9 | h9
          · rw [show vlo F d M - vhi F d M = (k : Int) by omega]; exact hap
          · rw [show (k : Int) = 1 by omega] at hap; exact aps_10 h9 hap⟩, f4⟩) d_Mo_apart_65
  | succ f ih =>
    intro k t r0 ht hk1 hk hap hr σ1 f1 f2 f3 f4
    have hr00 := hap.1
    obtain ⟨kk, rfl⟩ : ∃ kk, k = kk + 1 := ⟨k - 1, by omega⟩
    have hlt : ((kk + 1 : Nat) : Int) < vlo F d M - vhi F d M := by omega
    have hd1 : 1 ≤ d 0 := by omega
    have hso := isoL_le (d 0) (by omega)
    have inner : ∀ (u s : Nat) (t2 : Int), t2 = s → s + u = 900 → (0 < (s : Int) → alk (lk F d 0) (cN F d M) (kk : Int) ((s : Int) - 1)) → ∀ (σ2 : q_S), σ2 (m + 7) p = vlo F d M - vhi F d M → mq σ2 m p F d → (∀ i : Nat, (i : Int) < vlo F d M - vhi F d M → kcl σ2 m p i F d M 44 1980) → isoF σ σ2 m p → q_T l K L R_Mo b_Mo_apart 5 (some .int) 8 (fun r σ' => (∃ (M : Nat) (F : Nat → Nat → Int) (d : Nat → Nat), gch P n M F d ∧ ∃ rr : Int, r = some (vi rr) ∧ aps (lk F d 0) (cN F d M) (vlo F d M - vhi F d M) rr) ∧ isoF σ σ' m p) 28 [some (.ref m), some (vi p), some (vi r0), some (vi t), some (vi t2)] [] σ2 := by
      intro u
      induction u with
      | zero =>
        intro s t2 ht2 hs hal σ2 g1 g2 g3 g4
        refine q_aload_n d_Mo_apart_28 rfl ?_
        refine q_iload_n d_Mo_apart_29 rfl ?_
        refine q_iload_n d_Mo_apart_30 rfl ?_
        refine q_topi ht ?_
        refine q_iload d_Mo_apart_31 rfl ?_
        refine q_topi ht2 ?_
        refine q_callV (As := [vi p, vi ((kk + 1 : Nat) : Int), vi s]) (c_Mo_isAlike l K (k := kk) (nn := s) hLL hp (by omega) hg hd1 g2 (g3 kk (by omega)) (g3 (kk + 1) hlt) (by omega)) w_cd_Mo_isAlike w_ini_Mo w_ml_Mo_201 w_im_Mo_isAlike w_se_Mo_isAlike hM0 rfl hd_Mo_isAlike rfl (Nat.le_of_ble_eq_true rfl) d_Mo_apart_33 (by decide) (by decide) (fun v σ3 hp => ?_)
        obtain ⟨⟨b, rfl, hb01, hb⟩, k1, k2, k3, k4, k5, k6⟩ := hp
        have q1 : σ3 (m + 7) p = vlo F d M - vhi F d M := by rw [k6]; exact g1
        have q3 : ∀ i : Nat, (i : Int) < vlo F d M - vhi F d M → kcl σ3 m p i F d M 44 1980 := fun i hi => by
          by_cases e1 : i = kk
          · rw [e1]; exact k1
          · by_cases e2 : i = kk + 1
            · rw [e2]; exact k2
            · exact k3 i (by omega) e1 e2 (g3 i hi)
        have q4 := g4.trans k5
        refine q_if_eq (tgt := 45) (by omega) d_Mo_apart_36 (by decide) (fun cb => ?_) (fun cb => ?_)
        · refine q_iload d_Mo_apart_45 rfl ?_
          refine q_iload_n d_Mo_apart_47 rfl ?_
          refine q_icmp_le (tgt := 56) (by omega) (by omega) d_Mo_apart_48 (by decide) (fun cm => ?_) (fun cm => ?_)
          · refine q_iload_n d_Mo_apart_56 rfl ?_
            refine q_ist_n_2 d_Mo_apart_57 (by decide) rfl ?_
            refine q_iinc_3 d_Mo_apart_58 (by decide) rfl ?_
            refine q_goto (tgt := 15) d_Mo_apart_61 (by decide) ?_
            have hapt := apt_alk (i := (kk : Int)) (nn := (s : Int)) hsN.rts (by omega) (fun h9 => absurd (hb.2 h9) (by omega)) hal
            refine q_drop_4 ?_
            refine ih (kk + 1 + 1) _ _ (by omega) (by omega) (by omega) ?_ (by omega) σ3 q1 (fun _ => k4) q3 q4
            rw [show ((kk + 1 + 1 : Nat) : Int) = ((kk + 1 : Nat) : Int) + 1 by omega, show r0 = max r0 (s : Int) by omega]
            refine aps_s (by omega) hap ?_
            rw [show ((kk + 1 : Nat) : Int) - 1 = (kk : Int) by omega]
            exact hapt
          · refine q_iload d_Mo_apart_51 rfl ?_
            refine q_goto (tgt := 57) d_Mo_apart_53 (by decide) ?_
            refine q_ist_n_2 d_Mo_apart_57 (by decide) rfl ?_
            refine q_iinc_3 d_Mo_apart_58 (by decide) rfl ?_
            refine q_goto (tgt := 15) d_Mo_apart_61 (by decide) ?_
            have hapt := apt_alk (i := (kk : Int)) (nn := (s : Int)) hsN.rts (by omega) (fun h9 => absurd (hb.2 h9) (by omega)) hal
            refine q_drop_4 ?_
            refine ih (kk + 1 + 1) _ _ (by omega) (by omega) (by omega) ?_ (by omega) σ3 q1 (fun _ => k4) q3 q4
            rw [show ((kk + 1 + 1 : Nat) : Int) = ((kk + 1 : Nat) : Int) + 1 by omega, show t2 = max r0 (s : Int) by omega]
            refine aps_s (by omega) hap ?_
            rw [show ((kk + 1 : Nat) : Int) - 1 = (kk : Int) by omega]
            exact hapt
        · exact absurd (hb.1 (by omega)) (hg.nalk (by omega))
      | succ u ihu =>
        intro s t2 ht2 hs hal σ2 g1 g2 g3 g4
        refine q_aload_n d_Mo_apart_28 rfl ?_
        refine q_iload_n d_Mo_apart_29 rfl ?_
        refine q_iload_n d_Mo_apart_30 rfl ?_
        refine q_topi ht ?_
        refine q_iload d_Mo_apart_31 rfl ?_
        refine q_topi ht2 ?_
        refine q_callV (As := [vi p, vi ((kk + 1 : Nat) : Int), vi s]) (c_Mo_isAlike l K (k := kk) (nn := s) hLL hp (by omega) hg hd1 g2 (g3 kk (by omega)) (g3 (kk + 1) hlt) (by omega)) w_cd_Mo_isAlike w_ini_Mo w_ml_Mo_201 w_im_Mo_isAlike w_se_Mo_isAlike hM0 rfl hd_Mo_isAlike rfl (Nat.le_of_ble_eq_true rfl) d_Mo_apart_33 (by decide) (by decide) (fun v σ3 hp => ?_)
        obtain ⟨⟨b, rfl, hb01, hb⟩, k1, k2, k3, k4, k5, k6⟩ := hp
        have q1 : σ3 (m + 7) p = vlo F d M - vhi F d M := by rw [k6]; exact g1
        have q3 : ∀ i : Nat, (i : Int) < vlo F d M - vhi F d M → kcl σ3 m p i F d M 44 1980 := fun i hi => by
          by_cases e1 : i = kk
          · rw [e1]; exact k1
          · by_cases e2 : i = kk + 1
            · rw [e2]; exact k2
            · exact k3 i (by omega) e1 e2 (g3 i hi)
        have q4 := g4.trans k5
        refine q_if_eq (tgt := 45) (by omega) d_Mo_apart_36 (by decide) (fun cb => ?_) (fun cb => ?_)
        · refine q_iload d_Mo_apart_45 rfl ?_
          refine q_iload_n d_Mo_apart_47 rfl ?_
          refine q_icmp_le (tgt := 56) (by omega) (by omega) d_Mo_apart_48 (by decide) (fun cm => ?_) (fun cm => ?_)
          · refine q_iload_n d_Mo_apart_56 rfl ?_
            refine q_ist_n_2 d_Mo_apart_57 (by decide) rfl ?_
            refine q_iinc_3 d_Mo_apart_58 (by decide) rfl ?_
            refine q_goto (tgt := 15) d_Mo_apart_61 (by decide) ?_
            have hapt := apt_alk (i := (kk : Int)) (nn := (s : Int)) hsN.rts (by omega) (fun h9 => absurd (hb.2 h9) (by omega)) hal
            refine q_drop_4 ?_
            refine ih (kk + 1 + 1) _ _ (by omega) (by omega) (by omega) ?_ (by omega) σ3 q1 (fun _ => k4) q3 q4
            rw [show ((kk + 1 + 1 : Nat) : Int) = ((kk + 1 : Nat) : Int) + 1 by omega, show r0 = max r0 (s : Int) by omega]
            refine aps_s (by omega) hap ?_
            rw [show ((kk + 1 : Nat) : Int) - 1 = (kk : Int) by omega]
            exact hapt
          · refine q_iload d_Mo_apart_51 rfl ?_
            refine q_goto (tgt := 57) d_Mo_apart_53 (by decide) ?_
            refine q_ist_n_2 d_Mo_apart_57 (by decide) rfl ?_
            refine q_iinc_3 d_Mo_apart_58 (by decide) rfl ?_
            refine q_goto (tgt := 15) d_Mo_apart_61 (by decide) ?_
            have hapt := apt_alk (i := (kk : Int)) (nn := (s : Int)) hsN.rts (by omega) (fun h9 => absurd (hb.2 h9) (by omega)) hal
            refine q_drop_4 ?_
            refine ih (kk + 1 + 1) _ _ (by omega) (by omega) (by omega) ?_ (by omega) σ3 q1 (fun _ => k4) q3 q4
            rw [show ((kk + 1 + 1 : Nat) : Int) = ((kk + 1 : Nat) : Int) + 1 by omega, show t2 = max r0 (s : Int) by omega]
            refine aps_s (by omega) hap ?_
            rw [show ((kk + 1 : Nat) : Int) - 1 = (kk : Int) by omega]
            exact hapt
        · refine q_iinc_4 d_Mo_apart_39 (by decide) rfl ?_
          refine q_goto (tgt := 28) d_Mo_apart_42 (by decide) ?_
          exact ihu (s + 1) _ (by omega) (by omega) (fun _ => by rw [show ((s + 1 : Nat) : Int) - 1 = (s : Int) by omega]; exact hb.1 (by omega)) σ3 q1 k4 q3 q4
    refine q_iload_n d_Mo_apart_15 rfl ?_
    refine q_aload_n d_Mo_apart_16 rfl ?_
    refine q_gr hM0 pc_Mo 7 (by decide) w_fl_Mo_30 rfl (by rfl) d_Mo_apart_17 ?_
    refine q_iload_n d_Mo_apart_20 rfl ?_
    refine q_ial (p) (by assumption) (by omega) (by omega) (by omega) d_Mo_apart_21 ?_
    refine q_topi f1 ?_
    refine q_icmp_ge (tgt := 64) (by omega) (by omega) d_Mo_apart_22 (by decide) (fun c22 => absurd c22 (by omega)) (fun c22 => ?_)
    refine q_iconst d_Mo_apart_25 rfl ?_
    refine q_ist_4 d_Mo_apart_26 (by decide) rfl ?_
    exact inner 900 0 0 rfl (by omega) (fun h => by omega) σ1 f1 (f2 hd1) f3 f4
set_option maxHeartbeats 4000000 in
set_option maxRecDepth 100000 in
theorem c_Mo_apart (l : Launch) (K : pw_K) {L : q_L} {σ : q_S} {m p n : Nat} {P : Nat → Int} (hL : mL L m) (hp : p < 2) (hd : σ (m + 4) p = (n : Int)) (hP : ∀ k, k ≤ n → rV σ m (9 * p + k) (P k)) (hz : ∀ c, n < c → P c = 0) (hPn : P n ≠ 0) (hn8 : n ≤ 8) (hb : ∀ k, (P k).natAbs ≤ 2147483648) : q_C l K L y_Mo_apart b_Mo_apart 5 (some .int) 8 [.ref m, vi p] σ (fun r σ' => (∃ (M : Nat) (F : Nat → Nat → Int) (d : Nat → Nat), gch P n M F d ∧ ∃ rr : Int, r = some (vi rr) ∧ aps (lk F d 0) (cN F d M) (vlo F d M - vhi F d M) rr) ∧ isoF (q_up σ m 0 0) σ' m p) := by
  have hLL := hL
  obtain ⟨hM0, hM1, hM2, hM3, hM4, hM5, hM6, hM7, hM8, hM9⟩ := hL
  refine q_start [some (.ref m), some (vi p), none, none, none] (by decide) (Nat.le_of_ble_eq_true rfl) (fun q h => h) ?_
  refine q_aload_n d_Mo_apart_0 rfl ?_
  refine q_iload_n d_Mo_apart_1 rfl ?_
  refine q_iconst d_Mo_apart_2 rfl ?_
  refine q_callV (As := [vi p, vi 1]) (c_Mo_stops l K hLL hp hd hP hz hPn hn8 hb) w_cd_Mo_stops w_ini_Mo w_ml_Mo_153 w_im_Mo_stops w_se_Mo_stops hM0 rfl hd_Mo_stops rfl (Nat.le_of_ble_eq_true rfl) d_Mo_apart_3 (by decide) (by decide) (fun v σ1 hp => ?_)
  obtain ⟨rfl, ⟨M, F, d, hg, k1, k2, k3⟩, k4⟩ := hp
  have hcn := hg.cnt
  refine q_if_eq (tgt := 11) (by decide) d_Mo_apart_6 (by decide) (fun c6 => ?_) (fun c6 => absurd c6 (by decide))
  refine q_iconst d_Mo_apart_11 rfl ?_
  refine q_ist_n_2 d_Mo_apart_12 (by decide) rfl ?_
  refine q_iconst d_Mo_apart_13 rfl ?_
  refine q_ist_n_3 d_Mo_apart_14 (by decide) rfl ?_
  refine a_Mo_apart l K hLL hp hg (max 1 (vlo F d M - vhi F d M) - 1).toNat 1 1 0 rfl (by decide) (by omega) (aps_0 (by decide)) (by decide) σ1 k2 (fun h => (k1 (by omega)).2) (fun i hi => ?_) k4
  obtain ⟨C, j, x, hka, hj1, hj2⟩ := (k3 i hi).kat
  exact hka.kcl hj1 (by omega)
