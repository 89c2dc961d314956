/-! THE REFERENCE: multiple -/
set_option maxHeartbeats 4000000 in
set_option maxRecDepth 100000 in
theorem a_Mo_multiple (l : Launch) (K : pw_K) {L : q_L} {σ : q_S} {m p i n M : Nat} {P : Nat → Int} {F : Nat → Nat → Int} {d : Nat → Nat} (hL : mL L m) (hp : p < 2) (hg : gch P n M F d) (h1 : 1 ≤ d 0) (hi : (i : Int) < vlo F d M - vhi F d M) : ∀ (f w r tt : Nat) (t : Int) (W R : Nat → Int), t = tt → w ≤ f → mlv P n F d M i W w R r tt → ∀ (σ1 : q_S), mq σ1 m p F d → (kcl σ1 m p i F d M 44 1274) → plr σ1 m 8 W w → plr σ1 m 9 R r → mkp σ σ1 m → q_T l K L R_Mo b_Mo_multiple 5 (some .int) 8 (fun r σ' => (∃ (M : Nat) (F : Nat → Nat → Int) (d : Nat → Nat), gch P n M F d ∧ ∃ k : Nat, r = some (vi (k : Int)) ∧ mspec P n F d M i k) ∧ mkp σ σ' m) 65 [some (.ref m), some (vi p), some (vi i), some (vi t), some (vi 1)] [] σ1 := by
  have hLL := hL
  obtain ⟨hM0, hM1, hM2, hM3, hM4, hM5, hM6, hM7, hM8, hM9⟩ := hL
  have hcn := hg.cnt
  have hn8 := hg.2.2.1
  have hzq := hg.zq 0 (by omega)
  have hvq := hg.vzq (re := 32) (i := (i : Int)) (Or.inl rfl) (by omega) ⟨by omega, hi⟩
  have hpl := hg.pla (re := 32) (i := (i : Int)) (Or.inl rfl) (by omega) ⟨by omega, hi⟩
  intro f
  induction f with
  | zero =>
    intro w r tt t W R ht hw hv
    have := hv.2.2.2.1
    have := hv.2.2.2.2.2.1
    omega
  | succ f ih =>
    intro w r tt t W R ht hw hv σ1 f1 f2 f3 f4 f5
    obtain ⟨y1, y2⟩ := hv.div hg h1 hi
    have hlb := y2.lb hg
    obtain ⟨v1, v2, v3, v4, v5, v6, v7, v8, -⟩ := hv
    have hEB : hid (∀ t, t ≤ 9 → (∀ k, ((exw R (r + 1) W (w + 1) t k).natAbs : Int) < 65536 ^ 34) ∧ ∀ k, ((exs R (r + 1) W (w + 1) t k).natAbs : Int) < 65536 ^ 34) := fun t ht => by
      have h9 := ex_bd (D := R) (b := r + 1) (P := W) (n := w + 1) v7 v8 t
      have h8 : 52 + t * (52 + 1) ≤ 529 := by
        have : t * (52 + 1) ≤ 9 * (52 + 1) := Nat.mul_le_mul_right _ ht
        omega
      exact ⟨fun k => lh16 (Nat.le_trans (h9.1 k) (Nat.pow_le_pow_right (by omega) h8)) (by decide), fun k => lh16 (Nat.le_trans (h9.2 k) (Nat.pow_le_pow_right (by omega) h8)) (by decide)⟩
    have hRB : hid (∀ k, k < r + 1 → ((R k).natAbs : Int) < 65536 ^ 4) := fun k _ => lh16 (v8 k) (by decide)
    clear v7 v8
    refine q_iload d_Mo_multiple_65 rfl ?_
    refine q_if_eq (tgt := 132) (by decide) d_Mo_multiple_67 (by decide) (fun c67 => absurd c67 (by decide)) (fun c67 => ?_)
    refine q_iinc_3 d_Mo_multiple_70 (by decide) rfl ?_
    refine q_aload_n d_Mo_multiple_73 rfl ?_
    refine q_bipush d_Mo_multiple_74 (by decide) ?_
    refine q_bipush d_Mo_multiple_76 (by decide) ?_
    refine q_bipush d_Mo_multiple_78 (by decide) ?_
    refine q_callV (As := [vi 8, vi 8, vi 9]) (c_Mo_exactly l K (o := 8) (p := 8) (i := 9) (n := w + 1) (b := r + 1) (u := 34) (v := 4) (P := W) (Q := R) hLL (by decide) (by decide) (by decide) (by decide) (by decide) (by decide) (by decide) (by decide) (by decide) (by omega) (by omega) (by omega) (by rw [f3.1]; omega) (by rw [f4.1]; omega) (fun k hk => f3.2 k (by omega)) (fun k hk => f4.2 k (by omega)) (fun t ht k _ => (hEB t (by omega)).1 k) (fun t ht k _ => (hEB t (by omega)).2 k) (fun k _ => Int.lt_of_lt_of_le ((hEB _ (by omega)).2 k) (ip_le (by decide) (by decide))) (by rw [show w + 1 - (r + 1) = w - r by omega]; exact y1) hRB (by decide)) w_cd_Mo_exactly w_ini_Mo w_ml_Mo_105 w_im_Mo_exactly w_se_Mo_exactly hM0 rfl hd_Mo_exactly rfl (Nat.le_of_ble_eq_true rfl) d_Mo_multiple_80 (by decide) (by decide) (fun v σ2 hp => ?_)
    obtain ⟨rfl, i1, i2, i3, i4, i5⟩ := hp
    rw [show w + 1 - (r + 1) = w - r by omega] at i1 i2 i3
    have g3 : plr σ2 m 8 (prm (exs R (r + 1) W (w + 1) (w - r + 1)) (w - r + 1)) (w - r) := ⟨by rw [i1]; omega, fun k hk => by unfold prm; rw [Nat.add_sub_cancel]; exact i2 k (by omega)⟩
    have g1 : mq σ2 m p F d := ⟨by rw [i4 _ (by omega) (by omega) (by omega)]; exact f1.1, fun k hk => (f1.2 k hk).mv (i3 _ (by omega) (by omega) (by omega))⟩
    have g2 : kcl σ2 m p i F d M 44 1274 := by
      obtain ⟨C, j, x, a1, a2, a3, a4⟩ := f2
      exact ⟨C, j, x, a1.mv (i3 _ (by omega) (by omega) (by omega)), by rw [i5 (m + 5) (by omega) (by omega) (by omega) (by omega) (by omega)]; exact a2, by rw [i5 (m + 6) (by omega) (by omega) (by omega) (by omega) (by omega)]; exact a3, a4⟩
    have g5 : mkp σ σ2 m := f5.trans ⟨fun q a1 a2 a3 a4 _ _ _ a8 => i5 q a1 a2 a3 a4 a8, fun r a => i3 r (by omega) (by omega) (by omega), fun j a => i4 j (by omega) (by omega) (by omega)⟩
    clear i1 i2 i3 i4 i5
    generalize prm (exs R (r + 1) W (w + 1) (w - r + 1)) (w - r + 1) = V at *
    generalize hw2 : w - r = w2 at *
    refine q_aload_n d_Mo_multiple_83 rfl ?_
    refine q_gr hM0 pc_Mo 4 (by decide) w_fl_Mo_20 rfl (by rfl) d_Mo_multiple_84 ?_
    refine q_bipush d_Mo_multiple_87 (by decide) ?_
    refine q_ial (8) (by assumption) (by omega) (by omega) (by omega) d_Mo_multiple_89 ?_
    refine q_topi g3.1 ?_
    refine q_if_le (tgt := 97) (by omega) d_Mo_multiple_90 (by decide) (fun c90 => ?_) (fun c90 => ?_)
    · refine q_iconst d_Mo_multiple_97 rfl ?_
      refine q_ist_4 d_Mo_multiple_98 (by decide) rfl ?_
      refine q_iload d_Mo_multiple_100 rfl ?_
      refine q_if_ne (tgt := 108) (by decide) d_Mo_multiple_102 (by decide) (fun c102 => absurd c102 (by decide)) (fun c102 => ?_)
      refine q_goto (tgt := 65) d_Mo_multiple_105 (by decide) ?_
      refine q_iload d_Mo_multiple_65 rfl ?_
      refine q_if_eq (tgt := 132) (by decide) d_Mo_multiple_67 (by decide) (fun c67 => ?_) (fun c67 => absurd c67 (by decide))
      refine q_iload_n d_Mo_multiple_132 rfl ?_
      exact q_iret rfl (⟨⟨M, F, d, hg, tt + 1, by rw [show (t + 1 : Int) = ((tt + 1 : Nat) : Int) by omega], y2.fin hg h1 hi (Or.inl (by omega))⟩, g5⟩) d_Mo_multiple_133
    · refine q_iconst d_Mo_multiple_93 rfl ?_
      refine q_goto (tgt := 98) d_Mo_multiple_94 (by decide) ?_
      refine q_ist_4 d_Mo_multiple_98 (by decide) rfl ?_
      refine q_iload d_Mo_multiple_100 rfl ?_
      refine q_if_ne (tgt := 108) (by decide) d_Mo_multiple_102 (by decide) (fun c102 => ?_) (fun c102 => absurd c102 (by decide))
      refine q_aload_n d_Mo_multiple_108 rfl ?_
      refine q_bipush d_Mo_multiple_109 (by decide) ?_
      refine q_bipush d_Mo_multiple_111 (by decide) ?_
      refine q_iconst d_Mo_multiple_113 rfl ?_
      refine q_iload_n d_Mo_multiple_114 rfl ?_
      refine q_iadd d_Mo_multiple_115 ?_
      refine q_topi (show (2 : Int) + (p : Int) = ((2 + p : Nat) : Int) by omega) ?_
      refine q_callV (As := [vi 9, vi 8, vi ((2 + p : Nat) : Int)]) (al_Mo_divisor l K (o := 9) (p := 8) (i := 2 + p) (a := w2) (b := d 0) (A := V) (B := F 0) hLL (by omega) (by omega) (by omega) (by omega) (by omega) (by omega) g3 ⟨g1.1, g1.2⟩ y2.1 hzq.1 y2.2.1 hzq.2 (by omega) (by omega) hlb hg.l52) w_cd_Mo_divisor w_ini_Mo w_ml_Mo_102 w_im_Mo_divisor w_se_Mo_divisor hM0 rfl hd_Mo_divisor rfl (Nat.le_of_ble_eq_true rfl) d_Mo_multiple_116 (by decide) (by decide) (fun v σ3 hp => ?_)
      obtain ⟨rfl, ⟨G, ge, hgd, hG⟩, j1⟩ := hp
      have m1 : mq σ3 m p F d := by
        have := j1.pl (z := 2 + p) (by omega) (by omega) (by omega) (⟨g1.1, g1.2⟩ : plr σ2 m (2 + p) (F 0) (d 0))
        exact ⟨this.1, this.2⟩
      have m2 := j1.cl (by omega) g2
      have m3 := j1.pl (z := 8) (by omega) (by omega) (by omega) g3
      have m5 := g5.trans (j1.mk (by omega))
      have hgd0 := hgd
      obtain ⟨ge8, gz, gne, ggn, gcm⟩ := hgd
      have hvz := gcm.swap.vz (pl.ev _ _) (pl.ev _ _) hpl hvq
      obtain ⟨ra, rb', ua, ub, p1, p2, p3, p4, e1, e2, e3⟩ := gcm
      obtain ⟨C, j, x, hka, hj1, hj2⟩ := m2.kat
      refine q_aload_n d_Mo_multiple_119 rfl ?_
      refine q_bipush d_Mo_multiple_120 (by decide) ?_
      refine q_iload_n d_Mo_multiple_122 rfl ?_
      refine q_iload_n d_Mo_multiple_123 rfl ?_
      refine q_callV (As := [vi 9, vi p, vi i]) (al_Mo_isZeroAt l K (z := 9) (p := p) (i := i) hLL (by omega) hp (by omega) hg h1 hi hka hj1 (by omega) ge8 gz gne ggn hG p2 e2) w_cd_Mo_isZeroAt w_ini_Mo w_ml_Mo_172 w_im_Mo_isZeroAt w_se_Mo_isZeroAt hM0 rfl hd_Mo_isZeroAt rfl (Nat.le_of_ble_eq_true rfl) d_Mo_multiple_124 (by decide) (by decide) (fun v σ4 hp => ?_)
      obtain ⟨⟨b, rfl, hb⟩, k1⟩ := hp
      have q1 : mq σ4 m p F d := by
        have := k1.pl (z := 2 + p) (by omega) (by omega) (⟨m1.1, m1.2⟩ : plr σ3 m (2 + p) (F 0) (d 0))
        exact ⟨this.1, this.2⟩
      have q2 := k1.cl m2
      have q3 := k1.pl (z := 8) (by omega) (by omega) m3
      have q4 := k1.pl (z := 9) (by omega) (by omega) hG
      have q5 := m5.trans k1.mk
      refine q_ist_4 d_Mo_multiple_127 (by decide) rfl ?_
      refine q_goto (tgt := 65) d_Mo_multiple_129 (by decide) ?_
      rcases hb with ⟨rfl, hb⟩ | ⟨rfl, he1, hb⟩
      · refine q_iload d_Mo_multiple_65 rfl ?_
        refine q_if_eq (tgt := 132) (by decide) d_Mo_multiple_67 (by decide) (fun c67 => ?_) (fun c67 => absurd c67 (by decide))
        refine q_iload_n d_Mo_multiple_132 rfl ?_
        exact q_iret rfl (⟨⟨M, F, d, hg, tt + 1, by rw [show (t + 1 : Int) = ((tt + 1 : Nat) : Int) by omega], y2.fin hg h1 hi (Or.inr (fun h9 => hb (hvz.2 h9)))⟩, q5⟩) d_Mo_multiple_133
      · exact ih w2 ge (tt + 1) _ V G (by omega) (by omega) (y2.next hg hgd0 he1 hb) σ4 q1 q2 q3 q4 q5
set_option maxHeartbeats 4000000 in
set_option maxRecDepth 100000 in
theorem c_Mo_multiple (l : Launch) (K : pw_K) {L : q_L} {σ : q_S} {m p n : Nat} {P : Nat → Int} (hL : mL L m) (hp : p < 2) (hd : σ (m + 4) p = (n : Int)) (hP : ∀ k, k ≤ n → rV σ m (9 * p + k) (P k)) (hz : ∀ c, n < c → P c = 0) (hPn : P n ≠ 0) (hn8 : n ≤ 8) (hb : ∀ k, (P k).natAbs ≤ 2147483648) {i : Nat} (hok : ∀ (M : Nat) (F : Nat → Nat → Int) (d : Nat → Nat), gch P n M F d → (i : Int) < vlo F d M - vhi F d M) : q_C l K L y_Mo_multiple b_Mo_multiple 5 (some .int) 8 [.ref m, vi p, vi i] σ (fun r σ' => (∃ (M : Nat) (F : Nat → Nat → Int) (d : Nat → Nat), gch P n M F d ∧ ∃ k : Nat, r = some (vi (k : Int)) ∧ mspec P n F d M i k) ∧ mkp (q_up σ m 0 0) σ' m) := by
  have hLL := hL
  obtain ⟨hM0, hM1, hM2, hM3, hM4, hM5, hM6, hM7, hM8, hM9⟩ := hL
  refine q_start [some (.ref m), some (vi p), some (vi i), none, none] (by decide) (Nat.le_of_ble_eq_true rfl) (fun q h => h) ?_
  refine q_aload_n d_Mo_multiple_0 rfl ?_
  refine q_iload_n d_Mo_multiple_1 rfl ?_
  refine q_iconst d_Mo_multiple_2 rfl ?_
  refine q_callV (As := [vi p, vi 1]) (c_Mo_stops l K hLL hp hd hP hz hPn hn8 hb) w_cd_Mo_stops w_ini_Mo w_ml_Mo_153 w_im_Mo_stops w_se_Mo_stops hM0 rfl hd_Mo_stops rfl (Nat.le_of_ble_eq_true rfl) d_Mo_multiple_3 (by decide) (by decide) (fun v σ1 hp => ?_)
  obtain ⟨rfl, ⟨M, F, d, hg, k1, k2, k3⟩, k4⟩ := hp
  have hcn := hg.cnt
  have hlt := hok M F d hg
  have hd1 : 1 ≤ d 0 := by omega
  obtain ⟨-, hmq⟩ := k1 (by omega)
  have hm0 : σ1 m 0 = 0 := by rw [k4.1 m (by omega) (by omega) (by omega) (by omega) (by omega) (by omega) (by omega) (by omega), q_up_self]
  obtain ⟨C, j, x, hka, hj1, hj2⟩ := (k3 i hlt).kat
  refine q_if_ne (tgt := 42) (by decide) d_Mo_multiple_6 (by decide) (fun c6 => absurd c6 (by decide)) (fun c6 => ?_)
  refine q_aload_n d_Mo_multiple_9 rfl ?_
  refine q_iload_n d_Mo_multiple_10 rfl ?_
  refine q_i2l (by omega) d_Mo_multiple_11 ?_
  refine q_lconst (z := 0) d_Mo_multiple_12 (by decide) ?_
  refine q_aload_n d_Mo_multiple_13 rfl ?_
  refine q_gr hM0 pc_Mo 7 (by decide) w_fl_Mo_30 rfl (by rfl) d_Mo_multiple_14 ?_
  refine q_iload_n d_Mo_multiple_17 rfl ?_
  refine q_iconst d_Mo_multiple_18 rfl ?_
  refine q_iand (z := (p : Int)) (and1 hp) d_Mo_multiple_19 ?_
  refine q_ial (p) (by assumption) (by omega) (by omega) (by omega) d_Mo_multiple_20 ?_
  refine q_topi k2 ?_
  refine q_iconst d_Mo_multiple_21 rfl ?_
  refine q_isub d_Mo_multiple_22 ?_
  refine q_i2l (by omega) d_Mo_multiple_23 ?_
  refine q_callS (As := [vl (i : Int), vl 0, vl (vlo F d M - vhi F d M - 1)]) (q_Mo_in l K L σ1 (by omega) (by omega) (by omega)) w_cd_Mo_in w_ini_Mo w_ml_Mo_140 w_st_Mo_in hd_Mo_in rfl (Nat.le_of_ble_eq_true rfl) d_Mo_multiple_24 (by decide) (by decide) (fun v σ9 hp => ?_)
  obtain ⟨rfl, hσ⟩ := hp
  rw [hσ, if_pos (by omega)]
  clear hσ σ9
  refine q_if_ne (tgt := 34) (by decide) d_Mo_multiple_27 (by decide) (fun c27 => ?_) (fun c27 => absurd c27 (by decide))
  refine q_iconst d_Mo_multiple_34 rfl ?_
  refine q_iconst d_Mo_multiple_35 rfl ?_
  refine q_callV (As := [vi 0, vi 3]) (q_Mo_fails0 l K _ hLL) w_cd_Mo_fails w_ini_Mo w_ml_Mo_146 w_im_Mo_fails w_se_Mo_fails hM0 rfl hd_Mo_fails rfl (Nat.le_of_ble_eq_true rfl) d_Mo_multiple_36 (by decide) (by decide) (fun v σ9 hp => ?_)
  obtain ⟨rfl, hσ⟩ := hp
  rw [hσ, up_id hm0]
  clear hσ σ9
  refine q_if_eq (tgt := 44) (by decide) d_Mo_multiple_39 (by decide) (fun c39 => ?_) (fun c39 => absurd c39 (by decide))
  refine q_iconst d_Mo_multiple_44 rfl ?_
  refine q_ist_n_3 d_Mo_multiple_45 (by decide) rfl ?_
  refine q_iconst d_Mo_multiple_46 rfl ?_
  refine q_ist_4 d_Mo_multiple_47 (by decide) rfl ?_
  refine q_aload_n d_Mo_multiple_49 rfl ?_
  refine q_bipush d_Mo_multiple_50 (by decide) ?_
  refine q_iload_n d_Mo_multiple_52 rfl ?_
  refine q_callV (As := [vi 8, vi p]) (c_Mo_copyPoly l K (p := 8) (i := p) (n := n + 1) (P := P) hLL (by omega) (by omega) (by omega) (by omega) (by rw [k4.2.2.1 p (by omega) (by omega), q_up_a _ _ (by omega), hd]; omega) (fun k hk => ((hP k (by omega)).mv (up0 _)).mv (k4.2.1 _ (by omega) (by omega) (by omega) (by omega)))) w_cd_Mo_copyPoly w_ini_Mo w_ml_Mo_89 w_im_Mo_copyPoly w_se_Mo_copyPoly hM0 rfl hd_Mo_copyPoly rfl (Nat.le_of_ble_eq_true rfl) d_Mo_multiple_53 (by decide) (by decide) (fun v σ2 hp => ?_)
  obtain ⟨rfl, a1, a2, a3, a4, a5⟩ := hp
  have b1 : mq σ2 m p F d := ⟨by rw [a4 _ (by omega)]; exact hmq.1, fun k hk => (hmq.2 k hk).mv (a3 _ (by omega))⟩
  refine q_aload_n d_Mo_multiple_56 rfl ?_
  refine q_bipush d_Mo_multiple_57 (by decide) ?_
  refine q_iconst d_Mo_multiple_59 rfl ?_
  refine q_iload_n d_Mo_multiple_60 rfl ?_
  refine q_iadd d_Mo_multiple_61 ?_
  refine q_topi (show (2 : Int) + (p : Int) = ((2 + p : Nat) : Int) by omega) ?_
  refine q_callV (As := [vi 9, vi ((2 + p : Nat) : Int)]) (c_Mo_copyPoly l K (p := 9) (i := 2 + p) (n := d 0 + 1) (P := F 0) hLL (by omega) (by omega) (by omega) (by omega) (by rw [b1.1]; omega) (fun k hk => b1.2 k (by omega))) w_cd_Mo_copyPoly w_ini_Mo w_ml_Mo_89 w_im_Mo_copyPoly w_se_Mo_copyPoly hM0 rfl hd_Mo_copyPoly rfl (Nat.le_of_ble_eq_true rfl) d_Mo_multiple_62 (by decide) (by decide) (fun v σ3 hp => ?_)
  obtain ⟨rfl, c1, c2, c3, c4, c5⟩ := hp
  refine a_Mo_multiple l K hLL hp hg hd1 hlt n n (d 0) 0 0 P (F 0) rfl (Nat.le_refl _) (mlv.init hg hd1 hlt) σ3 ⟨by rw [c4 _ (by omega)]; exact b1.1, fun k hk => (b1.2 k hk).mv (c3 _ (by omega))⟩ ?_ ⟨by rw [c4 8 (by omega), a1]; omega, fun k hk => (a2 k (by omega)).mv (c3 _ (by omega))⟩ ⟨by rw [c1]; omega, fun k hk => c2 k (by omega)⟩ (k4.mk.trans ⟨fun q h1 h2 h3 h4 _ _ _ _ => by rw [c5 q h1 h2 h3 h4, a5 q h1 h2 h3 h4], fun r h => (a3 r (by omega)).trans (c3 r (by omega)), fun j h => by rw [c4 j (by omega), a4 j (by omega)]⟩)
  exact ⟨C, j, x, (hka.1.mv (a3 _ (by omega))).mv (c3 _ (by omega)), by rw [c5 (m + 5) (by omega) (by omega) (by omega) (by omega), a5 (m + 5) (by omega) (by omega) (by omega) (by omega)]; exact hka.2.1, by rw [c5 (m + 6) (by omega) (by omega) (by omega) (by omega), a5 (m + 6) (by omega) (by omega) (by omega) (by omega)]; exact hka.2.2.1, hka.2.2.2, hj1, hj2⟩
