/-! THE REFERENCE: tens -/
theorem ediv_b2 {x : Int} {a f : Nat} (h : x.natAbs ≤ 2 ^ (a + f)) : (x / 2 ^ f).natAbs ≤ 2 ^ a := by
  have hD := ip_pos (B := 2) (by decide) f
  have e : ((2 ^ (a + f) : Nat) : Int) = 2 ^ a * 2 ^ f := by rw [Int.natCast_pow, ← Int.pow_add]; rfl
  have e2 : ((2 ^ a : Nat) : Int) = 2 ^ a := Int.natCast_pow 2 a
  have x1 : -(2 ^ a) ≤ x / 2 ^ f := Int.le_ediv_of_mul_le hD (by rw [Int.neg_mul]; omega)
  have x2 : x / 2 ^ f ≤ 2 ^ a := Int.ediv_le_of_le_mul hD (by omega)
  omega
theorem fit_w2 {ex n : Nat} (h1 : ex ≤ 1400) (h2 : n ≤ 8) : 4 + ex * n / 16 + 2 ≤ 1023 := by
  have h3 : ex * n ≤ 1400 * 8 := Nat.mul_le_mul h1 h2
  have h4 := Nat.div_le_div_right (c := 16) h3
  omega
theorem lim_m {x y : Int} (hx : (x.natAbs : Int) < 65536 ^ 88) (hy : (y.natAbs : Int) < 65536 ^ 19) : ((x * y).natAbs : Int) < 65536 ^ 107 := by
  rw [Int.natAbs_mul, Int.natCast_mul, show 107 = 88 + 19 by omega, Int.pow_add]
  exact Int.lt_of_le_of_lt (Int.mul_le_mul_of_nonneg_right (Int.le_of_lt hx) (by omega)) (Int.mul_lt_mul_of_pos_left hy (ip_pos (by decide) _))
set_option maxHeartbeats 4000000 in
set_option maxRecDepth 100000 in
theorem c_Mo_tens (l : Launch) (K : pw_K) {L : q_L} {σ : q_S} {m p i n M j n0 : Nat} {P : Nat → Int} {F : Nat → Nat → Int} {d : Nat → Nat} {C x : Int} (hL : mL L m) (hp : p < 2) (hi : i < 8) (hg : gch P n M F d) (h1 : 1 ≤ d 0) (hq : mq σ m p F d) (hk : kat σ m p i F d M C j x) (hj1 : 44 + (4 * n0 + 1) ≤ j) (hj : j ≤ 1400) (hn0 : n0 ≤ 90) (hr : rV σ m 130 (lowv C j)) : q_C l K L y_Mo_tens b_Mo_tens 9 none 6 [.ref m, vi p, vi i, vi 130, vi ((j - 44 : Nat) : Int), vi n0] σ (fun r σ' => r = none ∧ (∃ w : Int, flT (lk F d 0) (cN F d M) (i : Int) w (10 ^ n0) ∧ w.natAbs ≤ 2 ^ 344 ∧ rV σ' m 130 w) ∧ (∀ q, q ≠ m + 1 → q ≠ m + 2 → q ≠ m + 3 → q ≠ m + 4 → q ≠ m + 9 → σ' q = σ q) ∧ (∀ j, j ≠ 7 → σ' (m + 4) j = σ (m + 4) j) ∧ (∀ r, (r < 63 ∨ 71 ≤ r) → (r < 96 ∨ 136 ≤ r) → rE σ σ' m r)) := by
  have hLL := hL
  obtain ⟨hM0, hM1, hM2, hM3, hM4, hM5, hM6, hM7, hM8, hM9⟩ := hL
  have hcn := hg.cnt
  have hn8 := hg.2.2.1
  have hx01 : x = 0 ∨ x = 1 := by rcases hk.2.2.2.2.2 with ⟨h9, -⟩ | ⟨h9, -⟩ <;> omega
  have hfr := hg.fitR hk.2.2.2.1 hk.2.2.2.2.1 (by omega)
  have hlo := low_bd hk.2.2.2.1 (Int.le_of_lt hk.2.2.2.2.1)
  have t300 : ∀ k, k ≤ n0 → ((10 : Int) ^ k).natAbs ≤ 2 ^ 300 := fun k hk => by rw [ten_abs]; exact ten_300 (by omega)
  have t19 : hid (∀ k, k ≤ n0 → (((10 : Int) ^ k).natAbs : Int) < 65536 ^ 19) := fun k hk => lh16 (t300 k hk) (by decide)
  have l88 : hid (((lowv C j).natAbs : Int) < 65536 ^ 88) := lh16 (x := 1399) (Nat.le_trans hlo (Nat.pow_le_pow_right (by omega) (by omega))) (by decide)
  have bA : ∃ A, A = lowv C j * 10 ^ n0 / 2 ^ (j - 44) := ⟨_, rfl⟩
  obtain ⟨A, hA⟩ := bA
  have hAb : A.natAbs ≤ 2 ^ 343 := by
    rw [hA]
    refine ediv_b2 ?_
    rw [Int.natAbs_mul]
    refine Nat.le_trans (Nat.mul_le_mul hlo (t300 n0 (Nat.le_refl _))) ?_
    rw [← Nat.pow_add]
    exact Nat.pow_le_pow_right (by omega) (by omega)
  have hA1 : (A + 1).natAbs ≤ 2 ^ 344 := by
    have : (A + 1).natAbs ≤ A.natAbs + 1 := Int.natAbs_add_le A 1
    have : 2 ^ 344 = 2 ^ 343 * 2 := by rw [show 344 = 343 + 1 by omega, Nat.pow_succ]
    have : 0 < 2 ^ 343 := Nat.pow_pos (by decide)
    omega
  have hTD : (10 : Int) ^ n0 ≤ 2 ^ (j - 44) := by
    have h3 : 10 ^ n0 ≤ 2 ^ (j - 44) := by
      refine Nat.le_trans (Nat.pow_le_pow_left (show 10 ≤ 2 ^ 4 by decide) n0) ?_
      rw [← Nat.pow_mul]
      exact Nat.pow_le_pow_right (by omega) (by omega)
    have h4 := Int.ofNat_le.2 h3
    rw [Int.natCast_pow, Int.natCast_pow] at h4
    exact h4
  have hten := fun v hv => hg.ten h1 (by omega) hk.2.2.2 (v := v) (ip_pos (by decide) n0) hTD hA hv
  have hAb344 : A.natAbs ≤ 2 ^ 344 := Nat.le_trans hAb (Nat.pow_le_pow_right (by omega) (by omega))
  have a22 : hid (((A + 1).natAbs : Int) < 65536 ^ 22) := lh16 hA1 (by decide)
  have a22' : hid ((A.natAbs : Int) < 65536 ^ 22) := lh16 hAb344 (by decide)
  have p151 : hid (∀ k, k ≤ d 0 → ((((10 : Int) ^ n0) ^ k).natAbs : Int) < 65536 ^ 151) := fun k hk => by
    refine lh16 (x := 2400) ?_ (by decide)
    rw [Int.natAbs_pow]
    refine Nat.le_trans (Nat.pow_le_pow_left (t300 n0 (Nat.le_refl _)) k) ?_
    rw [← Nat.pow_mul]
    exact Nat.pow_le_pow_right (by omega) (by omega)
  have f176 : hid (∀ k, k ≤ d 0 + 1 → ((hf (F 0) (d 0) (A + 1) (10 ^ n0) k).natAbs : Int) < 65536 ^ 176) := fun k hk => by
    refine lh16 (x := 2808) (Nat.le_trans (hf_bd (b := 52) (B := 344) (fun c => Nat.le_trans (hg.bits.1 c) (Nat.pow_le_pow_right (by omega) (fbm_52 _ (by omega)))) hA1 (Nat.le_trans (t300 n0 (Nat.le_refl _)) (Nat.pow_le_pow_right (by omega) (by omega))) k) ?_) (by decide)
    refine Nat.le_trans (Nat.mul_le_mul (show k ≤ 2 ^ 4 by omega) (Nat.pow_le_pow_right (by omega) (show 52 + 344 * (k - 1) ≤ 2804 by omega))) ?_
    rw [← Nat.pow_add]
    exact Nat.le_refl _
  clear hlo t300 hAb hTD
  have hA1 : hid _ := hA1
  have hAb344 : hid _ := hAb344
  have hten : hid _ := hten
  refine q_start [some (.ref m), some (vi p), some (vi i), some (vi 130), some (vi ((j - 44 : Nat) : Int)), some (vi n0), none, none, none] (by decide) (Nat.le_of_ble_eq_true rfl) (fun q h => h) ?_
  have loop : ∀ (f k : Nat) (t : Int), t = k → k + f = n0 → ∀ σ1 : q_S, rV σ1 m 131 (10 ^ k) → rV σ1 m 132 10 → rO σ σ1 m → (∀ r, (r < 96 ∨ 136 ≤ r) → rE σ σ1 m r) → rV σ1 m 130 (lowv C j) → q_T l K L R_Mo b_Mo_tens 9 none 6 (fun r σ' => r = none ∧ (∃ w : Int, flT (lk F d 0) (cN F d M) (i : Int) w (10 ^ n0) ∧ w.natAbs ≤ 2 ^ 344 ∧ rV σ' m 130 w) ∧ (∀ q, q ≠ m + 1 → q ≠ m + 2 → q ≠ m + 3 → q ≠ m + 4 → q ≠ m + 9 → σ' q = σ q) ∧ (∀ j, j ≠ 7 → σ' (m + 4) j = σ (m + 4) j) ∧ (∀ r, (r < 63 ∨ 71 ≤ r) → (r < 96 ∨ 136 ≤ r) → rE σ σ' m r)) 25 [some (.ref m), some (vi p), some (vi i), some (vi 130), some (vi ((j - 44 : Nat) : Int)), some (vi n0), some (vi 131), some (vi t), none] [] σ1 := by
    intro f
    induction f with
    | zero =>
      intro k t ht hk0 σ1 f1 f2 f3 f4 f5
      rw [show k = n0 by omega] at f1
      refine q_iload d_Mo_tens_25 rfl ?_
      refine q_iload d_Mo_tens_27 rfl ?_
      refine q_icmp_ge (tgt := 49) (by omega) (by omega) d_Mo_tens_29 (by decide) (fun c29 => ?_) (fun c29 => absurd c29 (by omega))
      refine q_aload_n d_Mo_tens_49 rfl ?_
      refine q_sipush d_Mo_tens_50 (by decide) ?_
      refine q_iload_n d_Mo_tens_53 rfl ?_
      refine q_callV (As := [vi 133, vi 130]) (c_Mo_copy l K (r := 133) (i := 130) hLL (by decide) (by decide) f5) w_cd_Mo_copy w_ini_Mo w_ml_Mo_69 w_im_Mo_copy w_se_Mo_copy hM0 rfl hd_Mo_copy rfl (Nat.le_of_ble_eq_true rfl) d_Mo_tens_54 (by decide) (by decide) (fun v σ2 hp => ?_)
      obtain ⟨rfl, k1, k2, -, k3⟩ := hp
      refine q_aload_n d_Mo_tens_57 rfl ?_
      refine q_iload_n d_Mo_tens_58 rfl ?_
      refine q_iload_n d_Mo_tens_59 rfl ?_
      refine q_iload d_Mo_tens_60 rfl ?_
      have k1b : rV σ2 m 130 (lowv C j) := f5.mv (k3 _ (by decide))
      refine q_callV (As := [vi 130, vi 130, vi 131]) (c_Mo_product l K (r := 130) (i := 130) (j := 131) (u := 88) (v := 19) hLL (by decide) (by decide) (by decide) (k1b) (f1.mv (k3 _ (by decide))) l88 (t19 n0 (Nat.le_refl _)) (by decide)) w_cd_Mo_product w_ini_Mo w_ml_Mo_76 w_im_Mo_product w_se_Mo_product hM0 rfl hd_Mo_product rfl (Nat.le_of_ble_eq_true rfl) d_Mo_tens_62 (by decide) (by decide) (fun v σ3 hp => ?_)
      obtain ⟨rfl, k4, k5, k6⟩ := hp
      refine q_aload_n d_Mo_tens_65 rfl ?_
      refine q_sipush d_Mo_tens_66 (by decide) ?_
      refine q_iload_n d_Mo_tens_69 rfl ?_
      refine q_iload d_Mo_tens_70 rfl ?_
      refine q_iconst d_Mo_tens_72 rfl ?_
      refine q_callV (As := [vi 134, vi 130, vi 131, vi 1]) (c_Mo_sum l K (r := 134) (i := 130) (j := 131) (u := 107) (f := 1) hLL (by decide) (by decide) (by decide) k4 ((f1.mv (k3 _ (by decide))).mv (k6 _ (by decide))) (Or.inl rfl) (lim_m l88 (t19 n0 (Nat.le_refl _))) (l16 (t19 n0 (Nat.le_refl _)) (by decide)) (by decide)) w_cd_Mo_sum w_ini_Mo w_ml_Mo_83 w_im_Mo_sum w_se_Mo_sum hM0 rfl hd_Mo_sum rfl (Nat.le_of_ble_eq_true rfl) d_Mo_tens_73 (by decide) (by decide) (fun v σ4 hp => ?_)
      obtain ⟨rfl, k7, k8, k9⟩ := hp
      refine q_aload_n d_Mo_tens_76 rfl ?_
      refine q_iload_n d_Mo_tens_77 rfl ?_
      refine q_iload d_Mo_tens_78 rfl ?_
      refine q_callV (As := [vi 130, vi ((j - 44 : Nat) : Int)]) (c_Mo_falls l K (a := 130) (f := j - 44) hLL (by decide) (by decide) (k4.mv (k9 _ (by decide))) (by omega) (l16 (lim_m l88 (t19 n0 (Nat.le_refl _))) (by decide))) w_cd_Mo_falls w_ini_Mo w_ml_Mo_186 w_im_Mo_falls w_se_Mo_falls hM0 rfl hd_Mo_falls rfl (Nat.le_of_ble_eq_true rfl) d_Mo_tens_80 (by decide) (by decide) (fun v σ5 hp => ?_)
      obtain ⟨rfl, k10, k11, k12⟩ := hp
      rw [← hA] at k10
      have o4 : rO σ σ5 m := (((f3.trans k2).trans k5).trans k8).trans k11
      have e4 : ∀ r, (r < 96 ∨ 136 ≤ r) → rE σ σ5 m r := fun r h => ((((f4 r h).trans (k3 r (by omega))).trans (k6 r (by omega))).trans (k9 r (by omega))).trans (k12 r (by omega) (by omega))
      have x5 : σ5 (m + 6) (8 * p + i) = x := by rw [o4 (m + 6) (by omega) (by omega) (by omega) (by omega)]; exact hk.2.2.1
      refine q_aload_n d_Mo_tens_83 rfl ?_
      refine q_gr hM0 pc_Mo 6 (by decide) w_fl_Mo_26 rfl (by rfl) d_Mo_tens_84 ?_
      refine q_bipush d_Mo_tens_87 (by decide) ?_
      refine q_iload_n d_Mo_tens_89 rfl ?_
      refine q_imul d_Mo_tens_90 ?_
      refine q_iload_n d_Mo_tens_91 rfl ?_
      refine q_iadd d_Mo_tens_92 ?_
      refine q_zal (8 * p + i) (by assumption) (by omega) (by omega) (by omega) d_Mo_tens_93 ?_
      refine q_topi x5 ?_
      refine q_if_eq (tgt := 98) (by omega) d_Mo_tens_94 (by decide) (fun cx => ?_) (fun cx => ?_)
      · refine q_aload_n d_Mo_tens_98 rfl ?_
        refine q_sipush d_Mo_tens_99 (by decide) ?_
        refine q_lconst (z := 1) d_Mo_tens_102 (by decide) ?_
        refine q_callV (As := [vi 132, vl 1]) (q_Mo_set l K σ5 (r := 132) (v := 1) hLL (by decide) (by decide)) w_cd_Mo_set w_ini_Mo w_ml_Mo_72 w_im_Mo_set w_se_Mo_set hM0 rfl hd_Mo_set rfl (Nat.le_of_ble_eq_true rfl) d_Mo_tens_103 (by decide) (by decide) (fun v σ6 hp => ?_)
        obtain ⟨rfl, k13, k14, -, k15⟩ := hp
        refine q_aload_n d_Mo_tens_106 rfl ?_
        refine q_sipush d_Mo_tens_107 (by decide) ?_
        refine q_iload_n d_Mo_tens_110 rfl ?_
        refine q_sipush d_Mo_tens_111 (by decide) ?_
        refine q_iconst d_Mo_tens_114 rfl ?_
        refine q_callV (As := [vi 132, vi 130, vi 132, vi 1]) (c_Mo_sum l K (r := 132) (i := 130) (j := 132) (u := 22) (f := 1) hLL (by decide) (by decide) (by decide) (k10.mv (k15 _ (by decide))) k13 (Or.inl rfl) a22' (show (((1 : Int).natAbs : Nat) : Int) < 65536 ^ 22 by decide) (by decide)) w_cd_Mo_sum w_ini_Mo w_ml_Mo_83 w_im_Mo_sum w_se_Mo_sum hM0 rfl hd_Mo_sum rfl (Nat.le_of_ble_eq_true rfl) d_Mo_tens_115 (by decide) (by decide) (fun v σ7 hp => ?_)
        obtain ⟨rfl, k16, k17, k18⟩ := hp
        rw [Int.one_mul] at k16
        refine q_aload_n d_Mo_tens_118 rfl ?_
        refine q_sipush d_Mo_tens_119 (by decide) ?_
        refine q_sipush d_Mo_tens_122 (by decide) ?_
        refine q_iload d_Mo_tens_125 rfl ?_
        refine q_callV (As := [vi 135, vi 132, vi ((j - 44 : Nat) : Int)]) (c_Mo_lift l K (r := 135) (i := 132) (p := j - 44) (u := 22) hLL (by decide) (by decide) k16 a22 (by omega)) w_cd_Mo_lift w_ini_Mo w_ml_Mo_108 w_im_Mo_lift w_se_Mo_lift hM0 rfl hd_Mo_lift rfl (Nat.le_of_ble_eq_true rfl) d_Mo_tens_127 (by decide) (by decide) (fun v σ8 hp => ?_)
        obtain ⟨rfl, k19, k20, k21⟩ := hp
        have o7 : rO σ σ8 m := ((o4.trans k14).trans k17).trans k20
        have e7 : ∀ r, (r < 96 ∨ 136 ≤ r) → rE σ σ8 m r := fun r h => (((e4 r h).trans (k15 r (by omega))).trans (k18 r (by omega))).trans (k21 r (by omega))
        have r134 : rV σ8 m 134 (lowv C j * 10 ^ n0 + 1 * 10 ^ n0) := ((((k7.mv (k12 _ (by decide) (by decide))).mv (k15 _ (by decide))).mv (k18 _ (by decide))).mv (k21 _ (by decide)))
        have r130 : rV σ8 m 130 A := ((k10.mv (k15 _ (by decide))).mv (k18 _ (by decide))).mv (k21 _ (by decide))
        have r132 : rV σ8 m 132 (A + 1) := k16.mv (k21 _ (by decide))
        have r133 : rV σ8 m 133 (lowv C j) := ((((((k1.mv (k6 _ (by decide))).mv (k9 _ (by decide))).mv (k12 _ (by decide) (by decide))).mv (k15 _ (by decide))).mv (k18 _ (by decide))).mv (k21 _ (by decide)))
        have r131 : rV σ8 m 131 (10 ^ n0) := (((((((f1.mv (k3 _ (by decide))).mv (k6 _ (by decide))).mv (k9 _ (by decide))).mv (k12 _ (by decide) (by decide))).mv (k15 _ (by decide))).mv (k18 _ (by decide))).mv (k21 _ (by decide)))
        have q8 : mq σ8 m p F d := hq.scr hp (by omega) ⟨o7, fun r h => e7 r (by omega)⟩
        refine q_aload_n d_Mo_tens_130 rfl ?_
        refine q_sipush d_Mo_tens_131 (by decide) ?_
        refine q_sipush d_Mo_tens_134 (by decide) ?_
        refine q_callV (As := [vi 135, vi 134]) (c_Mo_compareRows l K (i := 135) (j := 134) hLL (by decide) (by decide) k19 r134) w_cd_Mo_compareRows w_ini_Mo w_ml_Mo_165 w_im_Mo_compareRows w_se_Mo_compareRows hM0 rfl hd_Mo_compareRows rfl (Nat.le_of_ble_eq_true rfl) d_Mo_tens_137 (by decide) (by decide) (fun v σ9 hp => ?_)
        obtain ⟨rfl, hσ⟩ := hp
        rw [hσ]
        clear hσ σ9
        have hsb := Int.sign_trichotomy ((A + 1) * 2 ^ (j - 44) - (lowv C j * 10 ^ n0 + 1 * 10 ^ n0))
        have hcmp : 0 ≤ ((A + 1) * 2 ^ (j - 44) - (lowv C j * 10 ^ n0 + 1 * 10 ^ n0)).sign ↔ (lowv C j + 1) * 10 ^ n0 ≤ (A + 1) * 2 ^ (j - 44) := by
          rw [Int.sign_nonneg_iff, Int.add_mul (lowv C j)]; omega
        refine q_if_lt (tgt := 144) (by omega) d_Mo_tens_140 (by decide) (fun cc => ?_) (fun cc => ?_)
        · refine q_aload_n d_Mo_tens_144 rfl ?_
          refine q_iconst d_Mo_tens_145 rfl ?_
          refine q_iload_n d_Mo_tens_146 rfl ?_
          refine q_iadd d_Mo_tens_147 ?_
          refine q_topi (show (2 : Int) + (p : Int) = ((2 + p : Nat) : Int) by omega) ?_
          refine q_sipush d_Mo_tens_148 (by decide) ?_
          refine q_iload d_Mo_tens_151 rfl ?_
          refine q_callV (As := [vi ((2 + p : Nat) : Int), vi 133, vi ((j - 44 : Nat) : Int)]) (c_Mo_sideOf l K (p := 2 + p) (w := 133) (n := d 0) (ex := j - 44) (u := 876) (v := 126) (c := 4) (P := F 0) hLL (by omega) (by decide) (by decide) (by omega) h1 (by omega) q8.1 q8.2 r133 hfr.2.1 (fun k _ => hg.fitP k) hfr.2.2.1 hfr.2.2.2.1 (by decide) (fit_w2 (by omega) (by omega))) w_cd_Mo_sideOf w_ini_Mo w_ml_Mo_137 w_im_Mo_sideOf w_se_Mo_sideOf hM0 rfl hd_Mo_sideOf rfl (Nat.le_of_ble_eq_true rfl) d_Mo_tens_153 (by decide) (by decide) (fun v σ10 hp => ?_)
          obtain ⟨rv, w1, w2, w3⟩ := hp
          have rv : v = some (vi (sdv (F 0) (d 0) (lowv C j) (j - 44))) := rv
          subst rv
          have q10 : mq σ10 m p F d := ⟨by rw [w2 _ (by omega)]; exact q8.1, fun k hk => (q8.2 k hk).mv (w3 _ (by omega) (by omega) (by omega) (by omega))⟩
          refine q_ist_7 d_Mo_tens_156 (by decide) rfl ?_
          refine q_aload_n d_Mo_tens_158 rfl ?_
          refine q_iconst d_Mo_tens_159 rfl ?_
          refine q_iload_n d_Mo_tens_160 rfl ?_
          refine q_iadd d_Mo_tens_161 ?_
          refine q_topi (show (2 : Int) + (p : Int) = ((2 + p : Nat) : Int) by omega) ?_
          refine q_sipush d_Mo_tens_162 (by decide) ?_
          refine q_iload d_Mo_tens_165 rfl ?_
          refine q_callV (As := [vi ((2 + p : Nat) : Int), vi 132, vi 131]) (c_Mo_signAtRatio l K (p := 2 + p) (a := 132) (b := 131) (n := d 0) (u := 176) (v := 22) (w := 151) (uu := 19) (c := 4) (P := F 0) hLL (by omega) (by decide) (by decide) (by decide) (by decide) (by omega) q10.1 q10.2 (r132.mv (w3 _ (by decide) (by decide) (by decide) (by decide))) (r131.mv (w3 _ (by decide) (by decide) (by decide) (by decide))) f176 a22 (t19 n0 (Nat.le_refl _)) p151 (fun k _ => hg.fitP k) (by decide) (by decide) (by decide)) w_cd_Mo_signAtRatio w_ini_Mo w_ml_Mo_195 w_im_Mo_signAtRatio w_se_Mo_signAtRatio hM0 rfl hd_Mo_signAtRatio rfl (Nat.le_of_ble_eq_true rfl) d_Mo_tens_167 (by decide) (by decide) (fun v σ11 hp => ?_)
          obtain ⟨rv, w4, w5⟩ := hp
          rw [hf_sg _ _ _ _ (ip_pos (by decide) n0)] at rv
          have rv : v = some (vi (sgr (lk F d 0 (((A + 1 : Int) : Rat) / ((10 ^ n0 : Int) : Rat))))) := rv
          subst rv
          have hs1 := sgr_b (lk F d 0 (((A + 1 : Int) : Rat) / ((10 ^ n0 : Int) : Rat)))
          have hs2 : -1 ≤ sdv (F 0) (d 0) (lowv C j) (j - 44) ∧ sdv (F 0) (d 0) (lowv C j) (j - 44) ≤ 1 := by
            rw [hg.sdx h1]
            have y1 := sgr_b (lk F d 0 (xl C j))
            have y2 := sgr_b (lk F d 1 (xl C j))
            split <;> omega
          have hcn2 : ¬ (lowv C j + 1) * 10 ^ n0 ≤ (A + 1) * 2 ^ (j - 44) := fun h9 => by have := hcmp.2 h9; omega
          have g1 : ∀ q, q ≠ m + 1 → q ≠ m + 2 → q ≠ m + 3 → q ≠ m + 4 → q ≠ m + 9 → σ11 q = σ q := fun q a1 a2 a3 a4 a5 => by rw [w4 q a1 a2 a3 a5, w1 q a1 a2 a3 a4 a5, o7 q a1 a2 a3 a5]
          have g2 : ∀ j, j ≠ 7 → σ11 (m + 4) j = σ (m + 4) j := fun j a => by rw [w4 (m + 4) (by omega) (by omega) (by omega) (by omega), w2 j a, o7 (m + 4) (by omega) (by omega) (by omega) (by omega)]
          have g3 : ∀ r, (r < 63 ∨ 71 ≤ r) → (r < 96 ∨ 136 ≤ r) → rE σ σ11 m r := fun r a1 a2 => ((e7 r a2).trans (w3 r (by omega) (by omega) (by omega) a1)).trans (w5 r (by omega))
          have r130b : rV σ11 m 130 A := (r130.mv (w3 _ (by decide) (by decide) (by decide) (by decide))).mv (w5 _ (by decide))
          have r132b : rV σ11 m 132 (A + 1) := (r132.mv (w3 _ (by decide) (by decide) (by decide) (by decide))).mv (w5 _ (by decide))
          refine q_ist_8 d_Mo_tens_170 (by decide) rfl ?_
          refine q_iload d_Mo_tens_172 rfl ?_
          refine q_if_eq (tgt := 184) (by omega) d_Mo_tens_174 (by decide) (fun c8 => ?_) (fun c8 => ?_)
          · refine q_aload_n d_Mo_tens_184 rfl ?_
            refine q_iload_n d_Mo_tens_185 rfl ?_
            refine q_sipush d_Mo_tens_186 (by decide) ?_
            refine q_callV (As := [vi 130, vi 132]) (c_Mo_copy l K (r := 130) (i := 132) hLL (by decide) (by decide) r132b) w_cd_Mo_copy w_ini_Mo w_ml_Mo_69 w_im_Mo_copy w_se_Mo_copy hM0 rfl hd_Mo_copy rfl (Nat.le_of_ble_eq_true rfl) d_Mo_tens_189 (by decide) (by decide) (fun v σ12 hp => ?_)
            obtain ⟨rfl, v1, v2, -, v3⟩ := hp
            exact q_vret rfl (⟨rfl, ⟨A + 1, hten _ (by rw [if_pos cx, if_neg hcn2, if_pos (Or.inl c8)]), hA1, v1⟩, fun q a1 a2 a3 a4 a5 => by rw [v2 q a1 a2 a3 a5, g1 q a1 a2 a3 a4 a5], fun j a => by rw [v2 (m + 4) (by omega) (by omega) (by omega) (by omega), g2 j a], fun r a1 a2 => (g3 r a1 a2).trans (v3 r (by omega))⟩) d_Mo_tens_192
          · refine q_iload d_Mo_tens_177 rfl ?_
            refine q_iload d_Mo_tens_179 rfl ?_
            refine q_icmp_ne (tgt := 192) (by omega) (by omega) d_Mo_tens_181 (by decide) (fun c9 => ?_) (fun c9 => ?_)
            · exact q_vret rfl (⟨rfl, ⟨A, hten _ (by rw [if_pos cx, if_neg hcn2, if_neg (fun h9 => h9.elim c8 c9)]), hAb344, r130b⟩, g1, g2, g3⟩) d_Mo_tens_192
            · refine q_aload_n d_Mo_tens_184 rfl ?_
              refine q_iload_n d_Mo_tens_185 rfl ?_
              refine q_sipush d_Mo_tens_186 (by decide) ?_
              refine q_callV (As := [vi 130, vi 132]) (c_Mo_copy l K (r := 130) (i := 132) hLL (by decide) (by decide) r132b) w_cd_Mo_copy w_ini_Mo w_ml_Mo_69 w_im_Mo_copy w_se_Mo_copy hM0 rfl hd_Mo_copy rfl (Nat.le_of_ble_eq_true rfl) d_Mo_tens_189 (by decide) (by decide) (fun v σ12 hp => ?_)
              obtain ⟨rfl, v1, v2, -, v3⟩ := hp
              exact q_vret rfl (⟨rfl, ⟨A + 1, hten _ (by rw [if_pos cx, if_neg hcn2, if_pos (Or.inr (by omega))]), hA1, v1⟩, fun q a1 a2 a3 a4 a5 => by rw [v2 q a1 a2 a3 a5, g1 q a1 a2 a3 a4 a5], fun j a => by rw [v2 (m + 4) (by omega) (by omega) (by omega) (by omega), g2 j a], fun r a1 a2 => (g3 r a1 a2).trans (v3 r (by omega))⟩) d_Mo_tens_192
        · exact q_vret rfl (⟨rfl, ⟨A, hten _ (by rw [if_pos cx, if_pos (hcmp.1 (by omega))]), hAb344, r130⟩, fun q a1 a2 a3 a4 a5 => by rw [o7 q a1 a2 a3 a5], fun j a => by rw [o7 (m + 4) (by omega) (by omega) (by omega) (by omega)], fun r a1 a2 => e7 r a2⟩) d_Mo_tens_143
      · exact q_vret rfl (⟨rfl, ⟨A, hten _ ((if_neg cx).symm), hAb344, k10⟩, fun q a1 a2 a3 a4 a5 => by rw [o4 q a1 a2 a3 a5], fun j a => by rw [o4 (m + 4) (by omega) (by omega) (by omega) (by omega)], fun r a1 a2 => e4 r a2⟩) d_Mo_tens_97
    | succ f ih =>
      intro k t ht hk0 σ1 f1 f2 f3 f4 f5
      refine q_iload d_Mo_tens_25 rfl ?_
      refine q_iload d_Mo_tens_27 rfl ?_
      refine q_icmp_ge (tgt := 49) (by omega) (by omega) d_Mo_tens_29 (by decide) (fun c29 => absurd c29 (by omega)) (fun c29 => ?_)
      refine q_aload_n d_Mo_tens_32 rfl ?_
      refine q_iload d_Mo_tens_33 rfl ?_
      refine q_iload d_Mo_tens_35 rfl ?_
      refine q_sipush d_Mo_tens_37 (by decide) ?_
      refine q_callV (As := [vi 131, vi 131, vi 132]) (c_Mo_product l K (r := 131) (i := 131) (j := 132) (u := 19) (v := 1) hLL (by decide) (by decide) (by decide) f1 f2 (t19 k (by omega)) (by decide) (by decide)) w_cd_Mo_product w_ini_Mo w_ml_Mo_76 w_im_Mo_product w_se_Mo_product hM0 rfl hd_Mo_product rfl (Nat.le_of_ble_eq_true rfl) d_Mo_tens_40 (by decide) (by decide) (fun v σ2 hp => ?_)
      obtain ⟨rfl, k4, k5, k6⟩ := hp
      rw [← Int.pow_succ] at k4
      refine q_iinc_7 d_Mo_tens_43 (by decide) rfl ?_
      refine q_goto (tgt := 25) d_Mo_tens_46 (by decide) ?_
      exact ih (k + 1) _ (by omega) (by omega) σ2 k4 (f2.mv (k6 _ (by decide))) (f3.trans k5) (fun r h => (f4 r h).trans (k6 r (by omega))) (f5.mv (k6 _ (by decide)))
  refine q_sipush d_Mo_tens_0 (by decide) ?_
  refine q_ist_6 d_Mo_tens_3 (by decide) rfl ?_
  refine q_aload_n d_Mo_tens_5 rfl ?_
  refine q_iload d_Mo_tens_6 rfl ?_
  refine q_lconst (z := 1) d_Mo_tens_8 (by decide) ?_
  refine q_callV (As := [vi 131, vl 1]) (q_Mo_set l K σ (r := 131) (v := 1) hLL (by decide) (by decide)) w_cd_Mo_set w_ini_Mo w_ml_Mo_72 w_im_Mo_set w_se_Mo_set hM0 rfl hd_Mo_set rfl (Nat.le_of_ble_eq_true rfl) d_Mo_tens_9 (by decide) (by decide) (fun v σ1 hp => ?_)
  obtain ⟨rfl, k1, k2, -, k3⟩ := hp
  refine q_aload_n d_Mo_tens_12 rfl ?_
  refine q_sipush d_Mo_tens_13 (by decide) ?_
  refine q_ldc2 (z := 10) w_kl_Mo_193 (by decide) d_Mo_tens_16 ?_
  refine q_callV (As := [vi 132, vl 10]) (q_Mo_set l K σ1 (r := 132) (v := 10) hLL (by decide) (by decide)) w_cd_Mo_set w_ini_Mo w_ml_Mo_72 w_im_Mo_set w_se_Mo_set hM0 rfl hd_Mo_set rfl (Nat.le_of_ble_eq_true rfl) d_Mo_tens_19 (by decide) (by decide) (fun v σ2 hp => ?_)
  obtain ⟨rfl, k4, k5, -, k6⟩ := hp
  refine q_iconst d_Mo_tens_22 rfl ?_
  refine q_ist_7 d_Mo_tens_23 (by decide) rfl ?_
  exact loop n0 0 0 rfl (by omega) σ2 (by rw [Int.pow_zero]; exact k1.mv (k6 _ (by decide))) k4 (k2.trans k5) (fun r h => (k3 r (by omega)).trans (k6 r (by omega))) ((hr.mv (k3 _ (by decide))).mv (k6 _ (by decide)))
