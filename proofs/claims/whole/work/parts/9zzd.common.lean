/-! THE REFERENCE: common -/
theorem izF.cl {σ σ' : q_S} {m p i M lo hi : Nat} {F : Nat → Nat → Int} {d : Nat → Nat} (h : izF σ σ' m) (g : kcl σ m p i F d M lo hi) : kcl σ' m p i F d M lo hi := by
  obtain ⟨C, j, x, a1, a2, a3, a4⟩ := g
  exact ⟨C, j, x, a1.mv (h.2.2 _ (by omega) (by omega)), by rw [h.1 (m + 5) (by omega) (by omega) (by omega) (by omega) (by omega)]; exact a2, by rw [h.1 (m + 6) (by omega) (by omega) (by omega) (by omega) (by omega)]; exact a3, a4⟩
theorem izF.ka {σ σ' : q_S} {m p i M j : Nat} {F : Nat → Nat → Int} {d : Nat → Nat} {C x : Int} (h : izF σ σ' m) (g : kat σ m p i F d M C j x) : kat σ' m p i F d M C j x := ⟨g.1.mv (h.2.2 _ (by omega) (by omega)), by rw [h.1 (m + 5) (by omega) (by omega) (by omega) (by omega) (by omega)]; exact g.2.1, by rw [h.1 (m + 6) (by omega) (by omega) (by omega) (by omega) (by omega)]; exact g.2.2.1, g.2.2.2⟩
theorem izF.pl {σ σ' : q_S} {m z e : Nat} {G : Nat → Int} (h : izF σ σ' m) (hz : z < 7 ∨ (7 < z ∧ z < 10)) (he : e ≤ 8) (g : plr σ m z G e) : plr σ' m z G e := ⟨by rw [h.2.1 z (by omega)]; exact g.1, fun k hk => (g.2 k hk).mv (h.2.2 _ (by omega) (by omega))⟩
theorem dvF.cl {σ σ' : q_S} {m o p i M lo hi : Nat} {F : Nat → Nat → Int} {d : Nat → Nat} (h : dvF σ σ' m o) (ho : o < 10) (g : kcl σ m p i F d M lo hi) : kcl σ' m p i F d M lo hi := by
  obtain ⟨C, j, x, a1, a2, a3, a4⟩ := g
  exact ⟨C, j, x, a1.mv (h.1 _ (by omega) (by omega) (by omega)), by rw [h.2.2 (m + 5) (by omega) (by omega) (by omega) (by omega) (by omega)]; exact a2, by rw [h.2.2 (m + 6) (by omega) (by omega) (by omega) (by omega) (by omega)]; exact a3, a4⟩
theorem dvF.pl {σ σ' : q_S} {m o z e : Nat} {G : Nat → Int} (h : dvF σ σ' m o) (hz : z < 5 ∨ (7 < z ∧ z < 10)) (hzo : z ≠ o) (he : e ≤ 8) (g : plr σ m z G e) : plr σ' m z G e := ⟨by rw [h.2.1 z hzo (by omega) (by omega) (by omega)]; exact g.1, fun k hk => (g.2 k hk).mv (h.1 _ (by omega) (by omega) (by omega))⟩
theorem gch.l52 {P : Nat → Int} {n M : Nat} {F : Nat → Nat → Int} {d : Nat → Nat} (h : gch P n M F d) : l1 (F 0) (d 0 + 1) ≤ 2 ^ 52 := Nat.le_trans h.l0 (Nat.pow_le_pow_right (by omega) (fbm_52 _ (by have := h.cnt; have := h.2.2.1; omega)))
theorem l1_52 {P : Nat → Int} {n : Nat} (hn : n ≤ 8) (h : ∀ k, (P k).natAbs ≤ 2147483648) : l1 P (n + 1) ≤ 2 ^ 52 := Nat.le_trans (l1_35 hn h) (Nat.pow_le_pow_right (by omega) (by omega))
set_option maxHeartbeats 4000000 in
set_option maxRecDepth 100000 in
theorem a_Mo_common (l : Launch) (K : pw_K) {L : q_L} {σ : q_S} {m n n2 M e : Nat} {P P2 G : Nat → Int} {F : Nat → Nat → Int} {d : Nat → Nat} (hL : mL L m) (hg : gch P n M F d) (h1 : 1 ≤ d 0) (hgd : gdv (F 0) (d 0) P2 n2 G e) : ∀ (f k : Nat) (t r0 : Int), t = k → (k : Int) + f = vlo F d M - vhi F d M → r0 = nvz (lk F d 0) (cN F d M) (ev P2 (n2 + 1)) k → 0 ≤ r0 → r0 ≤ k → ∀ (σ1 : q_S), σ1 (m + 7) 0 = vlo F d M - vhi F d M → (∀ i : Nat, (i : Int) < vlo F d M - vhi F d M → kcl σ1 m 0 i F d M 44 1274) → plr σ1 m 8 G e → mkp σ σ1 m → q_T l K L R_Mo b_Mo_common 3 (some .int) 7 (fun r σ' => (∃ (M : Nat) (F : Nat → Nat → Int) (d : Nat → Nat), gch P n M F d ∧ r = some (vi (nvz (lk F d 0) (cN F d M) (ev P2 (n2 + 1)) (vlo F d M - vhi F d M).toNat))) ∧ mkp σ σ' m) 47 [some (.ref m), some (vi r0), some (vi t)] [] σ1 := by
  have hLL := hL
  obtain ⟨hM0, hM1, hM2, hM3, hM4, hM5, hM6, hM7, hM8, hM9⟩ := hL
  have hcn := hg.cnt
  have hn8 := hg.2.2.1
  obtain ⟨ge8, gz, gne, ggn, gcm⟩ := hgd
  have gcm2 := gcm
  obtain ⟨ra, rb', ua, ub, p1, p2, p3, p4, e1, e2, e3⟩ := gcm2
  intro f
  induction f with
  | zero =>
    intro k t r0 ht hk hr hr0 hrk σ1 f1 f3 f4 f5
    refine q_iload_n d_Mo_common_47 rfl ?_
    refine q_aload_n d_Mo_common_48 rfl ?_
    refine q_gr hM0 pc_Mo 7 (by decide) w_fl_Mo_30 rfl (by rfl) d_Mo_common_49 ?_
    refine q_iconst d_Mo_common_52 rfl ?_
    refine q_ial (0) (by assumption) (by omega) (by omega) (by omega) d_Mo_common_53 ?_
    refine q_topi f1 ?_
    refine q_icmp_ge (tgt := 82) (by omega) (by omega) d_Mo_common_54 (by decide) (fun c54 => ?_) (fun c54 => absurd c54 (by omega))
    refine q_iload_n d_Mo_common_82 rfl ?_
    exact q_iret rfl (⟨⟨M, F, d, hg, by rw [hr, show (vlo F d M - vhi F d M).toNat = k by omega]⟩, f5⟩) d_Mo_common_83
  | succ f ih =>
    intro k t r0 ht hk hr hr0 hrk σ1 f1 f3 f4 f5
    have hlt : (k : Int) < vlo F d M - vhi F d M := by omega
    obtain ⟨C, j, x, hka, hj1, hj2⟩ := (f3 k hlt).kat
    have hvz := gcm.vz (pl.ev _ _) (pl.ev _ _) (hg.pla (re := 32) (Or.inl rfl) (by omega) ⟨by omega, hlt⟩) (hg.vzq (re := 32) (Or.inl rfl) (by omega) ⟨by omega, hlt⟩)
    refine q_iload_n d_Mo_common_47 rfl ?_
    refine q_aload_n d_Mo_common_48 rfl ?_
    refine q_gr hM0 pc_Mo 7 (by decide) w_fl_Mo_30 rfl (by rfl) d_Mo_common_49 ?_
    refine q_iconst d_Mo_common_52 rfl ?_
    refine q_ial (0) (by assumption) (by omega) (by omega) (by omega) d_Mo_common_53 ?_
    refine q_topi f1 ?_
    refine q_icmp_ge (tgt := 82) (by omega) (by omega) d_Mo_common_54 (by decide) (fun c54 => absurd c54 (by omega)) (fun c54 => ?_)
    refine q_iload_n d_Mo_common_57 rfl ?_
    refine q_aload_n d_Mo_common_58 rfl ?_
    refine q_bipush d_Mo_common_59 (by decide) ?_
    refine q_iconst d_Mo_common_61 rfl ?_
    refine q_iload_n d_Mo_common_62 rfl ?_
    refine q_topi ht ?_
    refine q_callV (As := [vi 8, vi 0, vi k]) (al_Mo_isZeroAt l K (z := 8) (p := 0) (i := k) hLL (by omega) (by omega) (by omega) hg h1 hlt hka hj1 (by omega) ge8 gz gne ggn f4 p1 e1) w_cd_Mo_isZeroAt w_ini_Mo w_ml_Mo_172 w_im_Mo_isZeroAt w_se_Mo_isZeroAt hM0 rfl hd_Mo_isZeroAt rfl (Nat.le_of_ble_eq_true rfl) d_Mo_common_63 (by decide) (by decide) (fun v σ2 hp => ?_)
    obtain ⟨⟨b, rfl, hb⟩, k1⟩ := hp
    have q1 : σ2 (m + 7) 0 = vlo F d M - vhi F d M := by rw [k1.1 (m + 7) (by omega) (by omega) (by omega) (by omega) (by omega)]; exact f1
    have q3 : ∀ i : Nat, (i : Int) < vlo F d M - vhi F d M → kcl σ2 m 0 i F d M 44 1274 := fun i hi => k1.cl (f3 i hi)
    have q4 := k1.pl (by omega) ge8 f4
    have q5 := f5.trans k1.mk
    refine q_if_eq (tgt := 73) (by omega) d_Mo_common_66 (by decide) (fun cb => ?_) (fun cb => ?_)
    · refine q_iconst d_Mo_common_73 rfl ?_
      refine q_iadd d_Mo_common_74 ?_
      refine q_ist_n_1 d_Mo_common_75 (by decide) rfl ?_
      refine q_iinc_2 d_Mo_common_76 (by decide) rfl ?_
      refine q_goto (tgt := 47) d_Mo_common_79 (by decide) ?_
      exact ih (k + 1) _ _ (by omega) (by omega) (by
              have h9 : ¬ vz (rb (lk F d 0) (cN F d M) B0 (k : Int)) (ev P2 (n2 + 1)) := fun hv => by
                rcases hb with ⟨h8, h7⟩ | ⟨h8, h7⟩
                · exact h7 (hvz.2 hv)
                · omega
              rw [nvz_n h9]; omega) (by omega) (by omega) σ2 q1 q3 q4 q5
    · refine q_iconst d_Mo_common_69 rfl ?_
      refine q_goto (tgt := 74) d_Mo_common_70 (by decide) ?_
      refine q_iadd d_Mo_common_74 ?_
      refine q_ist_n_1 d_Mo_common_75 (by decide) rfl ?_
      refine q_iinc_2 d_Mo_common_76 (by decide) rfl ?_
      refine q_goto (tgt := 47) d_Mo_common_79 (by decide) ?_
      exact ih (k + 1) _ _ (by omega) (by omega) (by
              have h9 : vz (rb (lk F d 0) (cN F d M) B0 (k : Int)) (ev P2 (n2 + 1)) := by
                rcases hb with ⟨h8, h7⟩ | ⟨h8, -, h7⟩
                · omega
                · exact hvz.1 h7
              rw [nvz_y h9]; omega) (by omega) (by omega) σ2 q1 q3 q4 q5
set_option maxHeartbeats 4000000 in
set_option maxRecDepth 100000 in
theorem c_Mo_common (l : Launch) (K : pw_K) {L : q_L} {σ : q_S} {m n n2 : Nat} {P P2 : Nat → Int} (hL : mL L m) (hd : σ (m + 4) 0 = (n : Int)) (hP : ∀ k, k ≤ n → rV σ m (9 * 0 + k) (P k)) (hz : ∀ c, n < c → P c = 0) (hPn : P n ≠ 0) (hn8 : n ≤ 8) (hb : ∀ k, (P k).natAbs ≤ 2147483648) (hd2 : σ (m + 4) 1 = (n2 : Int)) (hP2 : ∀ k, k ≤ n2 → rV σ m (9 * 1 + k) (P2 k)) (hz2 : ∀ c, n2 < c → P2 c = 0) (hPn2 : P2 n2 ≠ 0) (hn82 : n2 ≤ 8) (hb2 : ∀ k, (P2 k).natAbs ≤ 2147483648) : q_C l K L y_Mo_common b_Mo_common 3 (some .int) 7 [.ref m] σ (fun r σ' => (∃ (M : Nat) (F : Nat → Nat → Int) (d : Nat → Nat), gch P n M F d ∧ r = some (vi (nvz (lk F d 0) (cN F d M) (ev P2 (n2 + 1)) (vlo F d M - vhi F d M).toNat))) ∧ mkp (q_up σ m 0 0) σ' m) := by
  have hLL := hL
  obtain ⟨hM0, hM1, hM2, hM3, hM4, hM5, hM6, hM7, hM8, hM9⟩ := hL
  refine q_start [some (.ref m), none, none] (by decide) (Nat.le_of_ble_eq_true rfl) (fun q h => h) ?_
  refine q_aload_n d_Mo_common_0 rfl ?_
  refine q_iconst d_Mo_common_1 rfl ?_
  refine q_callV (As := [vi 1]) (c_Mo_lacks1 l K hLL hd hd2 hn8 hn82) w_cd_Mo_lacks w_ini_Mo w_ml_Mo_204 w_im_Mo_lacks w_se_Mo_lacks hM0 rfl hd_Mo_lacks rfl (Nat.le_of_ble_eq_true rfl) d_Mo_common_2 (by decide) (by decide) (fun v σ9 hp => ?_)
  obtain ⟨rfl, hσ⟩ := hp
  rw [hσ]
  clear hσ σ9
  refine q_if_eq (tgt := 10) (by decide) d_Mo_common_5 (by decide) (fun c5 => ?_) (fun c5 => absurd c5 (by decide))
  refine q_aload_n d_Mo_common_10 rfl ?_
  refine q_iconst d_Mo_common_11 rfl ?_
  refine q_callV (As := [vi 0]) (c_Mo_isolates l K (p := 0) (n := n) (P := P) hLL (by omega) (by rw [q_up_a _ _ (by omega)]; exact hd) (fun k hk => (hP k hk).mv (up0 _)) hz hPn hn8 hb) w_cd_Mo_isolates w_ini_Mo w_ml_Mo_150 w_im_Mo_isolates w_se_Mo_isolates hM0 rfl hd_Mo_isolates rfl (Nat.le_of_ble_eq_true rfl) d_Mo_common_12 (by decide) (by decide) (fun v σ1 hp => ?_)
  obtain ⟨rfl, ⟨M, F, d, hg, k1, k2, k3⟩, k4⟩ := hp
  have hcn := hg.cnt
  have kd2 : σ1 (m + 4) 1 = (n2 : Int) := by rw [k4.2.2.1 1 (by omega) (by omega), q_up_a _ _ (by omega)]; exact hd2
  have kp2 : ∀ k, k ≤ n2 → rV σ1 m (9 * 1 + k) (P2 k) := fun k hk => ((hP2 k hk).mv (up0 _)).mv (k4.2.1 _ (by omega) (by omega) (by omega) (by omega))
  refine q_aload_n d_Mo_common_15 rfl ?_
  refine q_gr hM0 pc_Mo 7 (by decide) w_fl_Mo_30 rfl (by rfl) d_Mo_common_16 ?_
  refine q_iconst d_Mo_common_19 rfl ?_
  refine q_ial (0) (by assumption) (by omega) (by omega) (by omega) d_Mo_common_20 ?_
  refine q_topi k2 ?_
  refine q_if_eq (tgt := 33) (by omega) d_Mo_common_21 (by decide) (fun c0 => ?_) (fun c0 => ?_)
  · refine q_iconst d_Mo_common_33 rfl ?_
    exact q_iret rfl (⟨⟨M, F, d, hg, by
        rw [show (vlo F d M - vhi F d M).toNat = 0 by omega]; rfl⟩, k4.mk⟩) d_Mo_common_34
  · refine q_aload_n d_Mo_common_24 rfl ?_
    refine q_gr hM0 pc_Mo 4 (by decide) w_fl_Mo_20 rfl (by rfl) d_Mo_common_25 ?_
    refine q_iconst d_Mo_common_28 rfl ?_
    refine q_ial (1) (by assumption) (by omega) (by omega) (by omega) d_Mo_common_29 ?_
    refine q_topi kd2 ?_
    refine q_if_ne (tgt := 35) (by omega) d_Mo_common_30 (by decide) (fun c1 => ?_) (fun c1 => ?_)
    · refine q_aload_n d_Mo_common_35 rfl ?_
      refine q_bipush d_Mo_common_36 (by decide) ?_
      refine q_iconst d_Mo_common_38 rfl ?_
      refine q_iconst d_Mo_common_39 rfl ?_
      obtain ⟨hd1, hmq⟩ := k1 (by omega)
      have hzq := hg.zq 0 (by omega)
      refine q_callV (As := [vi 8, vi 2, vi 1]) (al_Mo_divisor l K (o := 8) (p := 2) (i := 1) (a := d 0) (b := n2) (A := F 0) (B := P2) hLL (by omega) (by omega) (by omega) (by omega) (by omega) (by omega) ⟨hmq.1, hmq.2⟩ ⟨kd2, kp2⟩ hzq.1 hz2 hzq.2 hPn2 (by omega) hn82 hg.l52 (l1_52 hn82 hb2)) w_cd_Mo_divisor w_ini_Mo w_ml_Mo_102 w_im_Mo_divisor w_se_Mo_divisor hM0 rfl hd_Mo_divisor rfl (Nat.le_of_ble_eq_true rfl) d_Mo_common_40 (by decide) (by decide) (fun v σ2 hp => ?_)
      obtain ⟨rfl, ⟨G, ge, hgd, hG⟩, j1⟩ := hp
      refine q_iconst d_Mo_common_43 rfl ?_
      refine q_ist_n_1 d_Mo_common_44 (by decide) rfl ?_
      refine q_iconst d_Mo_common_45 rfl ?_
      refine q_ist_n_2 d_Mo_common_46 (by decide) rfl ?_
      exact a_Mo_common l K hLL hg hd1 hgd (vlo F d M - vhi F d M).toNat 0 0 0 rfl (by omega) rfl (by omega) (by omega) σ2 (by rw [j1.2.2 (m + 7) (by omega) (by omega) (by omega) (by omega) (by omega)]; exact k2) (fun i hi => j1.cl (by omega) (k3 i hi)) hG (k4.mk.trans (j1.mk (by omega)))
    · refine q_iconst d_Mo_common_33 rfl ?_
      exact q_iret rfl (⟨⟨M, F, d, hg, by
          rw [nvz_0 (fun i hi hv => ?_)]
          have hpl := hg.pla (re := 32) (i := (i : Int)) (Or.inl rfl) (by omega) ⟨by omega, by omega⟩
          have e0 : n2 = 0 := by omega
          subst e0
          have hne : ((P2 0 : Int) : Rat) ≠ 0 := fun h9 => hPn2 (Rat.intCast_eq_zero_iff.1 h9)
          exact (nz.const hpl hne).not hpl (hv.congr (fun x => (ev_one1 P2 x).symm))⟩, k4.mk⟩) d_Mo_common_34
