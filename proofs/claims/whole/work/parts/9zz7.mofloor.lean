/-! THE REFERENCE: floor -/
/-- what stays of the reference between calls -/
def flF (σ σ' : q_S) (m : Nat) : Prop := (∀ q, (q < m ∨ m + 9 < q) → σ' q = σ q) ∧ (∀ r, r < 18 → rE σ σ' m r) ∧ (∀ j, j < 2 → σ' (m + 4) j = σ (m + 4) j)
theorem flF.trans {σ σ1 σ2 : q_S} {m : Nat} (h : flF σ σ1 m) (g : flF σ1 σ2 m) : flF σ σ2 m := ⟨fun q a => (g.1 q a).trans (h.1 q a), fun r a => (h.2.1 r a).trans (g.2.1 r a), fun j a => (g.2.2 j a).trans (h.2.2 j a)⟩
theorem isoF.fl {σ σ' : q_S} {m p : Nat} (h : isoF σ σ' m p) : flF σ σ' m := ⟨fun q a => h.1 q (by omega) (by omega) (by omega) (by omega) (by omega) (by omega) (by omega) (by omega), fun r a => h.2.1 r (by omega) (by omega) (by omega) (by omega), fun j a => h.2.2.1 j (by omega) (by omega)⟩
theorem scr.fl {σ σ' : q_S} {m : Nat} (h : rO σ σ' m) (g : ∀ r, r < 18 → rE σ σ' m r) : flF σ σ' m := ⟨fun q a => h q (by omega) (by omega) (by omega) (by omega), g, fun j _ => by rw [h (m + 4) (by omega) (by omega) (by omega) (by omega)]⟩
theorem up0.fl {σ : q_S} {m : Nat} : flF σ (q_up σ m 0 0) m := ⟨fun q a => q_up_a _ _ (by omega), fun r _ => up0 r, fun j _ => by rw [q_up_a _ _ (by omega)]⟩
theorem p344 : (2 : Nat) ^ 344 < 10 ^ 380 := by decide
theorem rce.two {q : Rat → Rat} {s N : Rat → Int} {c i C x : Int} {j n : Nat} (hs : rsx q s N c) (h : rce q N i C j x) (hj : 44 + n ≤ j) : flo q N i (lowv C j / 2 ^ (j - 44 - n)) (n : Int) ∧ (lowv C j / 2 ^ (j - 44 - n)).natAbs ≤ 2 ^ (43 + n) := by
  have h1 := (h.fo hs (by omega)).down hs.rts (m := (n : Int)) (by omega)
  have e : atl (C - 2 ^ (j - 1)) ((j : Int) - 44) (n : Int) = lowv C j / 2 ^ (j - 44 - n) := by
    unfold atl lowv
    rw [show ((j : Int) - 44 - (n : Int)).toNat = j - 44 - n by omega, if_neg (by omega), show 44 - j = 0 by omega, Int.pow_zero, Int.mul_one]
  rw [e] at h1
  refine ⟨h1, ediv_b2 ?_⟩
  have := low_bd h.1 (Int.le_of_lt h.2.1)
  rw [show 43 + n + (j - 44 - n) = 43 + (j - 44) by omega]
  exact this
set_option maxHeartbeats 4000000 in
set_option maxRecDepth 100000 in
theorem c_Mo_floor2 (l : Launch) (K : pw_K) {L : q_L} {σ : q_S} {m p n : Nat} {P : Nat → Int} (hL : mL L m) (hp : p < 2) (hd : σ (m + 4) p = (n : Int)) (hP : ∀ k, k ≤ n → rV σ m (9 * p + k) (P k)) (hz : ∀ c, n < c → P c = 0) (hPn : P n ≠ 0) (hn8 : n ≤ 8) (hb : ∀ k, (P k).natAbs ≤ 2147483648) {i n0 : Nat} (hn0 : n0 ≤ 300) (hok : ∀ (M : Nat) (F : Nat → Nat → Int) (d : Nat → Nat), gch P n M F d → (i : Int) < vlo F d M - vhi F d M) : q_C l K L y_Mo_floor b_Mo_floor 7 (some .int) 8 [.ref m, vi p, vi i, vi 0, vi n0] σ (fun r σ' => (∃ (M : Nat) (F : Nat → Nat → Int) (d : Nat → Nat), gch P n M F d ∧ ∃ (w : Int) (nd : Nat), flo (lk F d 0) (cN F d M) (i : Int) w (n0 : Int) ∧ ndg w.natAbs nd ∧ r = some (vi (tln w nd : Int)) ∧ σ' m 9 = (tln w nd : Int) ∧ ∀ k, k < tln w nd → σ' (m + 8) k = tcd w nd k) ∧ σ' m 0 = 0 ∧ flF σ σ' m) := by
  have hLL := hL
  obtain ⟨hM0, hM1, hM2, hM3, hM4, hM5, hM6, hM7, hM8, hM9⟩ := hL
  refine q_start [some (.ref m), some (vi p), some (vi i), some (vi 0), some (vi n0), none, none] (by decide) (Nat.le_of_ble_eq_true rfl) (fun q h => h) ?_
  refine q_aload_n d_Mo_floor_0 rfl ?_
  refine q_iload_n d_Mo_floor_1 rfl ?_
  refine q_iload d_Mo_floor_2 rfl ?_
  refine q_i2l (by omega) d_Mo_floor_4 ?_
  refine q_lconst (z := 0) d_Mo_floor_5 (by decide) ?_
  refine q_iload_n d_Mo_floor_6 rfl ?_
  refine q_if_eq (tgt := 16) (by decide) d_Mo_floor_7 (by decide) (fun c7 => ?_) (fun c7 => absurd c7 (by decide))
  refine q_ldc2 (z := 300) w_kl_Mo_180 (by decide) d_Mo_floor_16 ?_
  refine q_callS (As := [vl (n0 : Int), vl 0, vl 300]) (q_Mo_in l K L σ (by omega) (by omega) (by omega)) w_cd_Mo_in w_ini_Mo w_ml_Mo_140 w_st_Mo_in hd_Mo_in rfl (Nat.le_of_ble_eq_true rfl) d_Mo_floor_19 (by decide) (by decide) (fun v σ9 hp => ?_)
  obtain ⟨rfl, hσ⟩ := hp
  rw [hσ, if_pos (by omega)]
  clear hσ σ9
  refine q_callV (As := [vi p, vi 1]) (c_Mo_stops l K hLL hp hd hP hz hPn hn8 hb) w_cd_Mo_stops w_ini_Mo w_ml_Mo_153 w_im_Mo_stops w_se_Mo_stops hM0 rfl hd_Mo_stops rfl (Nat.le_of_ble_eq_true rfl) d_Mo_floor_22 (by decide) (by decide) (fun v σ1 hp => ?_)
  obtain ⟨rfl, ⟨M, F, d, hg, k1, k2, k3⟩, k4⟩ := hp
  have hcn := hg.cnt
  have hlt := hok M F d hg
  have hd1 : 1 ≤ d 0 := by omega
  obtain ⟨-, hmq⟩ := k1 (by omega)
  have hm0 : σ1 m 0 = 0 := by rw [k4.1 m (by omega) (by omega) (by omega) (by omega) (by omega) (by omega) (by omega) (by omega), q_up_self]
  obtain ⟨C, j, x, hka, hj1, hj2⟩ := (k3 i hlt).kat
  refine q_if_ne (tgt := 61) (by decide) d_Mo_floor_25 (by decide) (fun c25 => absurd c25 (by decide)) (fun c25 => ?_)
  refine q_aload_n d_Mo_floor_28 rfl ?_
  refine q_iload_n d_Mo_floor_29 rfl ?_
  refine q_i2l (by omega) d_Mo_floor_30 ?_
  refine q_lconst (z := 0) d_Mo_floor_31 (by decide) ?_
  refine q_aload_n d_Mo_floor_32 rfl ?_
  refine q_gr hM0 pc_Mo 7 (by decide) w_fl_Mo_30 rfl (by rfl) d_Mo_floor_33 ?_
  refine q_iload_n d_Mo_floor_36 rfl ?_
  refine q_iconst d_Mo_floor_37 rfl ?_
  refine q_iand (z := (p : Int)) (and1 hp) d_Mo_floor_38 ?_
  refine q_ial (p) (by assumption) (by omega) (by omega) (by omega) d_Mo_floor_39 ?_
  refine q_topi k2 ?_
  refine q_iconst d_Mo_floor_40 rfl ?_
  refine q_isub d_Mo_floor_41 ?_
  refine q_i2l (by omega) d_Mo_floor_42 ?_
  refine q_callS (As := [vl (i : Int), vl 0, vl (vlo F d M - vhi F d M - 1)]) (q_Mo_in l K L σ1 (by omega) (by omega) (by omega)) w_cd_Mo_in w_ini_Mo w_ml_Mo_140 w_st_Mo_in hd_Mo_in rfl (Nat.le_of_ble_eq_true rfl) d_Mo_floor_43 (by decide) (by decide) (fun v σ9 hp => ?_)
  obtain ⟨rfl, hσ⟩ := hp
  rw [hσ, if_pos (by omega)]
  clear hσ σ9
  refine q_if_ne (tgt := 53) (by decide) d_Mo_floor_46 (by decide) (fun c46 => ?_) (fun c46 => absurd c46 (by decide))
  refine q_iconst d_Mo_floor_53 rfl ?_
  refine q_iconst d_Mo_floor_54 rfl ?_
  refine q_callV (As := [vi 0, vi 3]) (q_Mo_fails0 l K _ hLL) w_cd_Mo_fails w_ini_Mo w_ml_Mo_146 w_im_Mo_fails w_se_Mo_fails hM0 rfl hd_Mo_fails rfl (Nat.le_of_ble_eq_true rfl) d_Mo_floor_55 (by decide) (by decide) (fun v σ9 hp => ?_)
  obtain ⟨rfl, hσ⟩ := hp
  rw [hσ, up_id hm0]
  clear hσ σ9
  refine q_if_eq (tgt := 63) (by decide) d_Mo_floor_58 (by decide) (fun c58 => ?_) (fun c58 => absurd c58 (by decide))
  refine q_aload_n d_Mo_floor_63 rfl ?_
  refine q_iload_n d_Mo_floor_64 rfl ?_
  refine q_iload_n d_Mo_floor_65 rfl ?_
  refine q_iload_n d_Mo_floor_66 rfl ?_
  refine q_if_eq (tgt := 79) (by decide) d_Mo_floor_67 (by decide) (fun c67 => ?_) (fun c67 => absurd c67 (by decide))
  refine q_iload d_Mo_floor_79 rfl ?_
  refine q_callV (As := [vi p, vi i, vi ((n0 : Nat) : Int)]) (al_Mo_refinesTo l K (i := i) (f := n0) hLL hp (by omega) hg hd1 hmq hka (by omega) (by omega)) w_cd_Mo_refinesTo w_ini_Mo w_ml_Mo_159 w_im_Mo_refinesTo w_se_Mo_refinesTo hM0 rfl hd_Mo_refinesTo rfl (Nat.le_of_ble_eq_true rfl) d_Mo_floor_81 (by decide) (by decide) (fun v σ2 hp => ?_)
  obtain ⟨rfl, ⟨C2, x2, b1⟩, b2⟩ := hp
  obtain ⟨sN, hsN⟩ := hg.rs
  have hJ : ∃ J, J = j + (44 + n0 - j) := ⟨_, rfl⟩
  obtain ⟨J, hJ⟩ := hJ
  rw [← hJ] at b1
  have hfr := hg.fitR b1.2.2.2.1 b1.2.2.2.2.1 (by omega)
  have q2 := b2.mq hp (by omega) hp hmq
  refine q_sipush d_Mo_floor_84 (by decide) ?_
  refine q_ist_5 d_Mo_floor_87 (by decide) rfl ?_
  refine q_aload_n d_Mo_floor_89 rfl ?_
  refine q_iload d_Mo_floor_90 rfl ?_
  refine q_iload_n d_Mo_floor_92 rfl ?_
  refine q_iload_n d_Mo_floor_93 rfl ?_
  refine q_callV (As := [vi 130, vi p, vi i]) (c_Mo_lowOf l K (o := 130) (p := p) (i := i) (j := J) (u := 126) hLL (by decide) (by decide) hp (by omega) b1.2.1 b1.1 hfr.1 (by omega) (by decide)) w_cd_Mo_lowOf w_ini_Mo w_ml_Mo_162 w_im_Mo_lowOf w_se_Mo_lowOf hM0 rfl hd_Mo_lowOf rfl (Nat.le_of_ble_eq_true rfl) d_Mo_floor_94 (by decide) (by decide) (fun v σ3 hp => ?_)
  obtain ⟨rfl, b3, b4, b5⟩ := hp
  have q3 : mq σ3 m p F d := ⟨by rw [b4 (m + 4) (by omega) (by omega) (by omega) (by omega)]; exact q2.1, fun k hk => (q2.2 k hk).mv (b5 _ (by omega) (by omega))⟩
  have c3 := b1.scr b4 (b5 _ (by omega) (by omega))
  have f3 : flF σ σ3 m := (((up0.fl).trans k4.fl).trans (b2.iso hp (by omega)).fl).trans (scr.fl b4 (fun r h => b5 r (by omega) (by omega)))
  have m3 : σ3 m 0 = 0 := by rw [b4 m (by omega) (by omega) (by omega) (by omega), b2.1 m (by omega) (by omega) (by omega) (by omega) (by omega) (by omega) (by omega)]; exact hm0
  refine q_ist_6 d_Mo_floor_97 (by decide) rfl ?_
  refine q_iload_n d_Mo_floor_99 rfl ?_
  refine q_if_eq (tgt := 118) (by decide) d_Mo_floor_100 (by decide) (fun c100 => ?_) (fun c100 => absurd c100 (by decide))
  refine q_aload_n d_Mo_floor_118 rfl ?_
  refine q_iload d_Mo_floor_119 rfl ?_
  refine q_iload d_Mo_floor_121 rfl ?_
  refine q_iload d_Mo_floor_123 rfl ?_
  refine q_isub d_Mo_floor_125 ?_
  refine q_topi (show ((J - 44 : Nat) : Int) - (n0 : Int) = ((J - 44 - n0 : Nat) : Int) by omega) ?_
  refine q_callV (As := [vi 130, vi ((J - 44 - n0 : Nat) : Int)]) (c_Mo_falls l K (a := 130) (f := J - 44 - n0) hLL (by decide) (by decide) b3 (by omega) (Int.lt_of_lt_of_le hfr.2.1 (ip_le (by decide) (by decide)))) w_cd_Mo_falls w_ini_Mo w_ml_Mo_186 w_im_Mo_falls w_se_Mo_falls hM0 rfl hd_Mo_falls rfl (Nat.le_of_ble_eq_true rfl) d_Mo_floor_126 (by decide) (by decide) (fun v σ4 hp => ?_)
  obtain ⟨rfl, w3, w4, w5⟩ := hp
  obtain ⟨w1, w2⟩ := (b1.2.2.2).two (n := n0) hsN (by omega)
  have w2 := Nat.le_trans w2 (Nat.pow_le_pow_right (n := 2) (by omega) (show 43 + n0 ≤ 344 by omega))
  generalize lowv C2 J / 2 ^ (J - 44 - n0) = w at *
  have f4 : flF σ σ4 m := f3.trans (scr.fl w4 (fun r h => w5 r (by omega) (by omega)))
  have m4 : σ4 m 0 = 0 := by rw [w4 m (by omega) (by omega) (by omega) (by omega)]; exact m3
  refine q_aload_n d_Mo_floor_129 rfl ?_
  refine q_iload d_Mo_floor_130 rfl ?_
  refine q_callV (As := [vi 130]) (c_Mo_writes l K (a := 130) hLL (by decide) (by decide) w3 (Nat.lt_of_le_of_lt w2 p344)) w_cd_Mo_writes w_ini_Mo w_ml_Mo_189 w_im_Mo_writes w_se_Mo_writes hM0 rfl hd_Mo_writes rfl (Nat.le_of_ble_eq_true rfl) d_Mo_floor_132 (by decide) (by decide) (fun v σ5 hp => ?_)
  obtain ⟨nd, t1, rfl, t2, t3, t4, t5, t6⟩ := hp
  exact q_iret rfl (⟨⟨M, F, d, hg, w, nd, w1, t1, rfl, t2, t3⟩, by rw [t4 0 (by decide)]; exact m4, f4.trans ⟨fun q a => t5 q (by omega) (by omega) (by omega) (by omega) (by omega) (by omega), fun r a => t6 r (by omega), fun j a => by rw [t5 (m + 4) (by omega) (by omega) (by omega) (by omega) (by omega) (by omega)]⟩⟩) d_Mo_floor_135
set_option maxHeartbeats 4000000 in
set_option maxRecDepth 100000 in
theorem c_Mo_floorT (l : Launch) (K : pw_K) {L : q_L} {σ : q_S} {m p n : Nat} {P : Nat → Int} (hL : mL L m) (hp : p < 2) (hd : σ (m + 4) p = (n : Int)) (hP : ∀ k, k ≤ n → rV σ m (9 * p + k) (P k)) (hz : ∀ c, n < c → P c = 0) (hPn : P n ≠ 0) (hn8 : n ≤ 8) (hb : ∀ k, (P k).natAbs ≤ 2147483648) {i n0 : Nat} (hn0 : n0 ≤ 90) (hok : ∀ (M : Nat) (F : Nat → Nat → Int) (d : Nat → Nat), gch P n M F d → (i : Int) < vlo F d M - vhi F d M) : q_C l K L y_Mo_floor b_Mo_floor 7 (some .int) 8 [.ref m, vi p, vi i, vi 1, vi n0] σ (fun r σ' => (∃ (M : Nat) (F : Nat → Nat → Int) (d : Nat → Nat), gch P n M F d ∧ ∃ (w : Int) (nd : Nat), flT (lk F d 0) (cN F d M) (i : Int) w (10 ^ n0) ∧ ndg w.natAbs nd ∧ r = some (vi (tln w nd : Int)) ∧ σ' m 9 = (tln w nd : Int) ∧ ∀ k, k < tln w nd → σ' (m + 8) k = tcd w nd k) ∧ σ' m 0 = 0 ∧ flF σ σ' m) := by
  have hLL := hL
  obtain ⟨hM0, hM1, hM2, hM3, hM4, hM5, hM6, hM7, hM8, hM9⟩ := hL
  refine q_start [some (.ref m), some (vi p), some (vi i), some (vi 1), some (vi n0), none, none] (by decide) (Nat.le_of_ble_eq_true rfl) (fun q h => h) ?_
  refine q_aload_n d_Mo_floor_0 rfl ?_
  refine q_iload_n d_Mo_floor_1 rfl ?_
  refine q_iload d_Mo_floor_2 rfl ?_
  refine q_i2l (by omega) d_Mo_floor_4 ?_
  refine q_lconst (z := 0) d_Mo_floor_5 (by decide) ?_
  refine q_iload_n d_Mo_floor_6 rfl ?_
  refine q_if_eq (tgt := 16) (by decide) d_Mo_floor_7 (by decide) (fun c7 => absurd c7 (by decide)) (fun c7 => ?_)
  refine q_ldc2 (z := 90) w_kl_Mo_178 (by decide) d_Mo_floor_10 ?_
  refine q_goto (tgt := 19) d_Mo_floor_13 (by decide) ?_
  refine q_callS (As := [vl (n0 : Int), vl 0, vl 90]) (q_Mo_in l K L σ (by omega) (by omega) (by omega)) w_cd_Mo_in w_ini_Mo w_ml_Mo_140 w_st_Mo_in hd_Mo_in rfl (Nat.le_of_ble_eq_true rfl) d_Mo_floor_19 (by decide) (by decide) (fun v σ9 hp => ?_)
  obtain ⟨rfl, hσ⟩ := hp
  rw [hσ, if_pos (by omega)]
  clear hσ σ9
  refine q_callV (As := [vi p, vi 1]) (c_Mo_stops l K hLL hp hd hP hz hPn hn8 hb) w_cd_Mo_stops w_ini_Mo w_ml_Mo_153 w_im_Mo_stops w_se_Mo_stops hM0 rfl hd_Mo_stops rfl (Nat.le_of_ble_eq_true rfl) d_Mo_floor_22 (by decide) (by decide) (fun v σ1 hp => ?_)
  obtain ⟨rfl, ⟨M, F, d, hg, k1, k2, k3⟩, k4⟩ := hp
  have hcn := hg.cnt
  have hlt := hok M F d hg
  have hd1 : 1 ≤ d 0 := by omega
  obtain ⟨-, hmq⟩ := k1 (by omega)
  have hm0 : σ1 m 0 = 0 := by rw [k4.1 m (by omega) (by omega) (by omega) (by omega) (by omega) (by omega) (by omega) (by omega), q_up_self]
  obtain ⟨C, j, x, hka, hj1, hj2⟩ := (k3 i hlt).kat
  refine q_if_ne (tgt := 61) (by decide) d_Mo_floor_25 (by decide) (fun c25 => absurd c25 (by decide)) (fun c25 => ?_)
  refine q_aload_n d_Mo_floor_28 rfl ?_
  refine q_iload_n d_Mo_floor_29 rfl ?_
  refine q_i2l (by omega) d_Mo_floor_30 ?_
  refine q_lconst (z := 0) d_Mo_floor_31 (by decide) ?_
  refine q_aload_n d_Mo_floor_32 rfl ?_
  refine q_gr hM0 pc_Mo 7 (by decide) w_fl_Mo_30 rfl (by rfl) d_Mo_floor_33 ?_
  refine q_iload_n d_Mo_floor_36 rfl ?_
  refine q_iconst d_Mo_floor_37 rfl ?_
  refine q_iand (z := (p : Int)) (and1 hp) d_Mo_floor_38 ?_
  refine q_ial (p) (by assumption) (by omega) (by omega) (by omega) d_Mo_floor_39 ?_
  refine q_topi k2 ?_
  refine q_iconst d_Mo_floor_40 rfl ?_
  refine q_isub d_Mo_floor_41 ?_
  refine q_i2l (by omega) d_Mo_floor_42 ?_
  refine q_callS (As := [vl (i : Int), vl 0, vl (vlo F d M - vhi F d M - 1)]) (q_Mo_in l K L σ1 (by omega) (by omega) (by omega)) w_cd_Mo_in w_ini_Mo w_ml_Mo_140 w_st_Mo_in hd_Mo_in rfl (Nat.le_of_ble_eq_true rfl) d_Mo_floor_43 (by decide) (by decide) (fun v σ9 hp => ?_)
  obtain ⟨rfl, hσ⟩ := hp
  rw [hσ, if_pos (by omega)]
  clear hσ σ9
  refine q_if_ne (tgt := 53) (by decide) d_Mo_floor_46 (by decide) (fun c46 => ?_) (fun c46 => absurd c46 (by decide))
  refine q_iconst d_Mo_floor_53 rfl ?_
  refine q_iconst d_Mo_floor_54 rfl ?_
  refine q_callV (As := [vi 0, vi 3]) (q_Mo_fails0 l K _ hLL) w_cd_Mo_fails w_ini_Mo w_ml_Mo_146 w_im_Mo_fails w_se_Mo_fails hM0 rfl hd_Mo_fails rfl (Nat.le_of_ble_eq_true rfl) d_Mo_floor_55 (by decide) (by decide) (fun v σ9 hp => ?_)
  obtain ⟨rfl, hσ⟩ := hp
  rw [hσ, up_id hm0]
  clear hσ σ9
  refine q_if_eq (tgt := 63) (by decide) d_Mo_floor_58 (by decide) (fun c58 => ?_) (fun c58 => absurd c58 (by decide))
  refine q_aload_n d_Mo_floor_63 rfl ?_
  refine q_iload_n d_Mo_floor_64 rfl ?_
  refine q_iload_n d_Mo_floor_65 rfl ?_
  refine q_iload_n d_Mo_floor_66 rfl ?_
  refine q_if_eq (tgt := 79) (by decide) d_Mo_floor_67 (by decide) (fun c67 => absurd c67 (by decide)) (fun c67 => ?_)
  refine q_iconst d_Mo_floor_70 rfl ?_
  refine q_iload d_Mo_floor_71 rfl ?_
  refine q_imul d_Mo_floor_73 ?_
  refine q_iconst d_Mo_floor_74 rfl ?_
  refine q_iadd d_Mo_floor_75 ?_
  refine q_topi (show (4 : Int) * (n0 : Int) + 1 = ((4 * n0 + 1 : Nat) : Int) by omega) ?_
  refine q_goto (tgt := 81) d_Mo_floor_76 (by decide) ?_
  refine q_callV (As := [vi p, vi i, vi (((4 * n0 + 1) : Nat) : Int)]) (al_Mo_refinesTo l K (i := i) (f := (4 * n0 + 1)) hLL hp (by omega) hg hd1 hmq hka (by omega) (by omega)) w_cd_Mo_refinesTo w_ini_Mo w_ml_Mo_159 w_im_Mo_refinesTo w_se_Mo_refinesTo hM0 rfl hd_Mo_refinesTo rfl (Nat.le_of_ble_eq_true rfl) d_Mo_floor_81 (by decide) (by decide) (fun v σ2 hp => ?_)
  obtain ⟨rfl, ⟨C2, x2, b1⟩, b2⟩ := hp
  obtain ⟨sN, hsN⟩ := hg.rs
  have hJ : ∃ J, J = j + (44 + (4 * n0 + 1) - j) := ⟨_, rfl⟩
  obtain ⟨J, hJ⟩ := hJ
  rw [← hJ] at b1
  have hfr := hg.fitR b1.2.2.2.1 b1.2.2.2.2.1 (by omega)
  have q2 := b2.mq hp (by omega) hp hmq
  refine q_sipush d_Mo_floor_84 (by decide) ?_
  refine q_ist_5 d_Mo_floor_87 (by decide) rfl ?_
  refine q_aload_n d_Mo_floor_89 rfl ?_
  refine q_iload d_Mo_floor_90 rfl ?_
  refine q_iload_n d_Mo_floor_92 rfl ?_
  refine q_iload_n d_Mo_floor_93 rfl ?_
  refine q_callV (As := [vi 130, vi p, vi i]) (c_Mo_lowOf l K (o := 130) (p := p) (i := i) (j := J) (u := 126) hLL (by decide) (by decide) hp (by omega) b1.2.1 b1.1 hfr.1 (by omega) (by decide)) w_cd_Mo_lowOf w_ini_Mo w_ml_Mo_162 w_im_Mo_lowOf w_se_Mo_lowOf hM0 rfl hd_Mo_lowOf rfl (Nat.le_of_ble_eq_true rfl) d_Mo_floor_94 (by decide) (by decide) (fun v σ3 hp => ?_)
  obtain ⟨rfl, b3, b4, b5⟩ := hp
  have q3 : mq σ3 m p F d := ⟨by rw [b4 (m + 4) (by omega) (by omega) (by omega) (by omega)]; exact q2.1, fun k hk => (q2.2 k hk).mv (b5 _ (by omega) (by omega))⟩
  have c3 := b1.scr b4 (b5 _ (by omega) (by omega))
  have f3 : flF σ σ3 m := (((up0.fl).trans k4.fl).trans (b2.iso hp (by omega)).fl).trans (scr.fl b4 (fun r h => b5 r (by omega) (by omega)))
  have m3 : σ3 m 0 = 0 := by rw [b4 m (by omega) (by omega) (by omega) (by omega), b2.1 m (by omega) (by omega) (by omega) (by omega) (by omega) (by omega) (by omega)]; exact hm0
  refine q_ist_6 d_Mo_floor_97 (by decide) rfl ?_
  refine q_iload_n d_Mo_floor_99 rfl ?_
  refine q_if_eq (tgt := 118) (by decide) d_Mo_floor_100 (by decide) (fun c100 => absurd c100 (by decide)) (fun c100 => ?_)
  refine q_aload_n d_Mo_floor_103 rfl ?_
  refine q_iload_n d_Mo_floor_104 rfl ?_
  refine q_iload_n d_Mo_floor_105 rfl ?_
  refine q_iload d_Mo_floor_106 rfl ?_
  refine q_iload d_Mo_floor_108 rfl ?_
  refine q_iload d_Mo_floor_110 rfl ?_
  refine q_callV (As := [vi p, vi i, vi 130, vi ((J - 44 : Nat) : Int), vi n0]) (c_Mo_tens l K (i := i) (j := J) (n0 := n0) hLL hp (by omega) hg hd1 q3 c3 (by omega) (by omega) hn0 b3) w_cd_Mo_tens w_ini_Mo w_ml_Mo_182 w_im_Mo_tens w_se_Mo_tens hM0 rfl hd_Mo_tens rfl (Nat.le_of_ble_eq_true rfl) d_Mo_floor_112 (by decide) (by decide) (fun v σ4 hp => ?_)
  obtain ⟨rfl, ⟨w, w1, w2, w3⟩, w4, w5, w6⟩ := hp
  have f4 : flF σ σ4 m := f3.trans ⟨fun q a => w4 q (by omega) (by omega) (by omega) (by omega) (by omega), fun r a => w6 r (by omega) (by omega), fun j a => w5 j (by omega)⟩
  have m4 : σ4 m 0 = 0 := by rw [w4 m (by omega) (by omega) (by omega) (by omega) (by omega)]; exact m3
  refine q_goto (tgt := 129) d_Mo_floor_115 (by decide) ?_
  refine q_aload_n d_Mo_floor_129 rfl ?_
  refine q_iload d_Mo_floor_130 rfl ?_
  refine q_callV (As := [vi 130]) (c_Mo_writes l K (a := 130) hLL (by decide) (by decide) w3 (Nat.lt_of_le_of_lt w2 p344)) w_cd_Mo_writes w_ini_Mo w_ml_Mo_189 w_im_Mo_writes w_se_Mo_writes hM0 rfl hd_Mo_writes rfl (Nat.le_of_ble_eq_true rfl) d_Mo_floor_132 (by decide) (by decide) (fun v σ5 hp => ?_)
  obtain ⟨nd, t1, rfl, t2, t3, t4, t5, t6⟩ := hp
  exact q_iret rfl (⟨⟨M, F, d, hg, w, nd, w1, t1, rfl, t2, t3⟩, by rw [t4 0 (by decide)]; exact m4, f4.trans ⟨fun q a => t5 q (by omega) (by omega) (by omega) (by omega) (by omega) (by omega), fun r a => t6 r (by omega), fun j a => by rw [t5 (m + 4) (by omega) (by omega) (by omega) (by omega) (by omega) (by omega)]⟩⟩) d_Mo_floor_135
