/-! THE REFERENCE: part -/
theorem qs_sc (x : Int) (K D : Nat → Int) (c : Nat) : ∀ t, qs K (fun c => x * D c) t c = qs (fun k => x * K k) D t c
  | 0 => rfl
  | t + 1 => by
    rw [qs, qs, qs_sc x K D c t]
    have : shP (fun c => x * D c) t c = x * shP D t c := by
      unfold shP
      split
      · simp
      · rfl
    rw [this]; grind
theorem gcd_ok {F : Nat → Nat → Int} {d : Nat → Nat} {f g M a : Nat} {D : Nat → Int} (h : chs F d f g M) (hM : 1 ≤ M) (h1 : ∀ c, F 1 c = dP (F 0) c) (hd0 : d 0 = d 1 + 1) (hq : pq (F M) (d M) D a) : d M ≤ d 0 ∧ ∃ S : Nat → Int, (∀ c, F 0 c = qs S D (d 0 - d M + 1) c) ∧ fcp (F 0) (d 0) S (d 0 - d M) := by
  obtain ⟨x1, x2, x3, Qp, x4, x5⟩ := prep_b h hM h1 hd0 (D := fun c => (F M c).tdiv (gn (F M) (d M + 1))) (fun _ => rfl)
  obtain ⟨sc, ht, hc, -⟩ := h
  obtain ⟨k, hk, e⟩ := hq.mul (hc.1 M (Nat.le_refl _)).1
  have hg : gn (F M) (d M + 1) = k.natAbs := by
    rw [show F M = fun c => k * D c from funext e, gn_smul, ← hq.1, hq.2.2.2, Nat.mul_one]
  have hs1 : k.sign * k.sign = 1 := by
    rcases Int.lt_trichotomy k 0 with h | h | h
    · rw [Int.sign_eq_neg_one_of_neg h]; rfl
    · exact absurd h hk
    · rw [Int.sign_eq_one_of_pos h]; rfl
  have hs0 : k.sign ≠ 0 := fun h => by rw [h] at hs1; exact absurd hs1 (by decide)
  have hDp : ∀ c, (F M c).tdiv (gn (F M) (d M + 1)) = k.sign * D c := fun c => by
    rw [hg, e c]
    have h2 : k * D c = (k.natAbs : Int) * (k.sign * D c) := by
      have := Int.sign_mul_natAbs k
      grind
    rw [h2, Int.mul_tdiv_cancel_left _ (by omega)]
  refine ⟨x3, fun j => k.sign * Qp j, fun c => ?_, fcp_div x5 hs0 (fun c => by show Qp c = k.sign * (k.sign * Qp c); rw [← Int.mul_assoc, hs1, Int.one_mul])⟩
  rw [x4 c, ← qs_sc]
  rw [show (fun c => (F M c).tdiv (gn (F M) (d M + 1))) = fun c => k.sign * D c from funext hDp]
set_option maxHeartbeats 4000000 in
set_option maxRecDepth 100000 in
theorem c_Mo_part (l : Launch) (K : pw_K) {L : q_L} {σ : q_S} {m p n : Nat} {P : Nat → Int} (hL : mL L m) (hp : p < 2) (hn1 : 1 ≤ n) (hn8 : n ≤ 8) (hd : σ (m + 4) p = (n : Int)) (hP : ∀ k, k ≤ n → rV σ m (9 * p + k) (P k)) (hz : ∀ c, n < c → P c = 0) (hPn : P n ≠ 0) (hb : ∀ k, (P k).natAbs ≤ 2147483648) : q_C l K L y_Mo_part b_Mo_part 2 none 5 [.ref m, vi p] σ (fun v σ' => v = none ∧ (∃ (w : Nat → Int) (mm : Nat), fcp P n w mm ∧ 1 ≤ mm ∧ gn w (mm + 1) = 1 ∧ σ' (m + 4) (2 + p) = (mm : Int) ∧ ∀ k, k ≤ mm → rV σ' m (9 * (2 + p) + k) (w k)) ∧ (∀ r, (r < 9 * (2 + p) ∨ 9 * (2 + p) + 9 ≤ r) → (r < 36 ∨ 72 ≤ r) → (r < 96 ∨ 103 ≤ r) → rE σ σ' m r) ∧ (∀ j, j ≠ 2 + p → j ≠ 4 → j ≠ 5 → j ≠ 6 → j ≠ 7 → σ' (m + 4) j = σ (m + 4) j) ∧ (∀ q, q ≠ m + 1 → q ≠ m + 2 → q ≠ m + 3 → q ≠ m + 4 → q ≠ m + 9 → σ' q = σ q)) := by
  have hLL := hL
  obtain ⟨hM0, hM1, hM2, hM3, hM4, hM5, hM6, hM7, hM8, hM9⟩ := hL
  obtain ⟨n1, rfl⟩ : ∃ n1, n = n1 + 1 := ⟨n - 1, by omega⟩
  have hb31 : ∀ k, (P k).natAbs ≤ 2 ^ 31 := hb
  have hl35 := l1_35 hn8 hb
  have hl38 := l1_dP8 hn8 hl35
  have hdz : ∀ c, n1 < c → dP P c = 0 := fun c hc => by unfold dP; rw [hz _ (by omega), Int.mul_zero]
  have hdn : dP P n1 ≠ 0 := by unfold dP; exact Int.mul_ne_zero (by omega) hPn
  obtain ⟨M, F, d, hM, e0, e1, d0, d1, hch⟩ := chs_ex (f := 52) (g := 52) hz hdz hPn hdn (by omega) (Nat.le_trans hl35 (Nat.pow_le_pow_right (by omega) (by omega))) (Nat.le_trans hl38 (Nat.pow_le_pow_right (by omega) (by omega)))
  obtain ⟨hB, hfin⟩ := dst_ok hM e0 e1 d0 d1 hch hn8
  have hB : hid _ := hB
  have hdM : d M ≤ n1 := by
    obtain ⟨sc, ht, hc, -⟩ := hch
    have := cin_deg hc M hM (Nat.le_refl _)
    omega
  have hFM : (∀ c, d M < c → F M c = 0) ∧ F M (d M) ≠ 0 := by
    obtain ⟨sc, ht, hc, -⟩ := hch
    exact hc.1 M (Nat.le_refl _)
  have hF832 := (chs_832 hch (by omega) M (Nat.le_refl _)).2
  have hb2 : hid (∀ k, k < n1 + 1 + 1 → ((P k).natAbs : Int) < 65536 ^ 2) := fun k _ => lh16 (hb31 k) (by decide)
  have hbQ : hid (∀ k, k < n1 + 1 → ((dP P k).natAbs : Int) < 65536 ^ 1023) := fun k hk => lh16 (x := 38) (Nat.le_trans (l1_ge hk) hl38) (by decide)
  have hbP : hid (∀ k, k < n1 + 1 + 1 → ((P k).natAbs : Int) < 65536 ^ 1023) := fun k _ => lh16 (hb31 k) (by decide)
  refine q_start [some (.ref m), some (vi p)] (by decide) (Nat.le_of_ble_eq_true rfl) (fun q h => h) ?_
  refine q_aload_n d_Mo_part_0 rfl ?_
  refine q_bipush d_Mo_part_1 (by decide) ?_
  refine q_iload_n d_Mo_part_3 rfl ?_
  refine q_callV (As := [vi 7, vi p]) (c_Mo_derive l K (p := 7) (i := p) (n := n1 + 1 + 1) (u := 2) (P := P) hLL (by decide) (by omega) (by omega) (by omega) (by rw [hd]; omega) (fun k hk => hP k (by omega)) hb2 (by decide)) w_cd_Mo_derive w_ini_Mo w_ml_Mo_99 w_im_Mo_derive w_se_Mo_derive hM0 rfl hd_Mo_derive rfl (Nat.le_of_ble_eq_true rfl) d_Mo_part_4 (by decide) (by decide) (fun v σ1 hp => ?_)
  obtain ⟨rfl, k1, k2, k3, k4, k5⟩ := hp
  have k2 : ∀ k, k < n1 + 1 → rV σ1 m (9 * 7 + k) (dP P k) := fun k hk => by have := k2 k (by omega); unfold dP; rw [Int.mul_comm]; exact this
  refine q_aload_n d_Mo_part_7 rfl ?_
  refine q_gr hM0 pc_Mo 4 (by decide) w_fl_Mo_20 rfl (by rfl) d_Mo_part_8 ?_
  refine q_bipush d_Mo_part_11 (by decide) ?_
  refine q_ial (7) (by assumption) (by omega) (by omega) (by omega) d_Mo_part_13 ?_
  refine q_topi (show _ = (n1 : Int) by rw [k1]; omega) ?_
  refine q_if_ge (tgt := 33) (by omega) d_Mo_part_14 (by decide) (fun c14 => ?_) (fun c14 => absurd c14 (by omega))
  refine q_aload_n d_Mo_part_33 rfl ?_
  refine q_iconst d_Mo_part_34 rfl ?_
  refine q_bipush d_Mo_part_35 (by decide) ?_
  refine q_callV (As := [vi 4, vi 7]) (c_Mo_copyPoly l K (p := 4) (i := 7) (n := n1 + 1) (P := dP P) hLL (by decide) (by decide) (by decide) (by omega) (by rw [k1]; omega) k2) w_cd_Mo_copyPoly w_ini_Mo w_ml_Mo_89 w_im_Mo_copyPoly w_se_Mo_copyPoly hM0 rfl hd_Mo_copyPoly rfl (Nat.le_of_ble_eq_true rfl) d_Mo_part_37 (by decide) (by decide) (fun v σ2 hp => ?_)
  obtain ⟨rfl, k6, k7, k8, k9, k10⟩ := hp
  refine q_aload_n d_Mo_part_40 rfl ?_
  refine q_iconst d_Mo_part_41 rfl ?_
  refine q_iload_n d_Mo_part_42 rfl ?_
  refine q_iconst d_Mo_part_43 rfl ?_
  refine q_callV (As := [vi 4, vi p, vi 4]) (c_Mo_divisor l K (o := 4) (p := p) (i := 4) (n := n1 + 1 + 1) (b := n1 + 1) (u := 521) (v := 53) (P := P) (Q := dP P) hLL (by decide) (by omega) (by decide) (by decide) (by omega) (by decide) (by omega) (by omega) (by omega) (by omega) (by rw [k9 _ (by omega), k4 _ (by omega), hd]; omega) k6 (fun k hk => ((hP k (by omega)).mv (k3 _ (by omega) (by omega))).mv (k8 _ (by omega))) k7 (by rw [Nat.add_sub_cancel]; exact hPn) (by rw [Nat.add_sub_cancel]; exact hdn) hbP hbQ hB (by decide)) w_cd_Mo_divisor w_ini_Mo w_ml_Mo_102 w_im_Mo_divisor w_se_Mo_divisor hM0 rfl hd_Mo_divisor rfl (Nat.le_of_ble_eq_true rfl) d_Mo_part_44 (by decide) (by decide) (fun v σ3 hp => ?_)
  obtain ⟨rfl, s, j1, j2, j3, j4, j5, j6⟩ := hp
  have hpq := hfin s j1
  generalize hDs : dst P (dP P) (n1 + 1 + 1) (n1 + 1) s = DD at *
  obtain ⟨⟨D, a⟩, CC⟩ := DD
  simp only at hpq j2 j3
  have ha := hpq.1
  obtain ⟨-, S, hS, hfc⟩ := gcd_ok hch hM (fun c => by rw [e0, e1]) (by omega) hpq
  rw [e0, d0] at hS hfc
  have hDz : ∀ c, d M < c → D c = 0 := fun c hc => hpq.2.2.1 c (by omega)
  have hDk : D (d M) ≠ 0 := by have := hpq.lead hFM.2; rw [ha, Nat.add_sub_cancel] at this; exact this
  have hDb : ∀ c, (D c).natAbs ≤ 2 ^ 832 := fun c => Nat.le_trans (hpq.le hFM.1 c) (hF832 c)
  obtain ⟨y1, y2⟩ := exs_ok (n := n1 + 1) (k := d M) (by omega) hDz hDk hz hfc.2.1 hfc.2.2.1 hS
  have hEB : hid (∀ t, t ≤ 9 → (∀ k, ((exw D (d M + 1) P (n1 + 1 + 1) t k).natAbs : Int) < 65536 ^ 471) ∧ ∀ k, ((exs D (d M + 1) P (n1 + 1 + 1) t k).natAbs : Int) < 65536 ^ 471) := fun t ht => by
    have h9 := ex_bd (D := D) (b := d M + 1) (P := P) (n := n1 + 1 + 1) hb31 hDb t
    have h8 : 31 + t * (832 + 1) ≤ 7528 := by
      have : t * (832 + 1) ≤ 9 * (832 + 1) := Nat.mul_le_mul_right _ ht
      omega
    exact ⟨fun k => lh16 (Nat.le_trans (h9.1 k) (Nat.pow_le_pow_right (by omega) h8)) (by decide), fun k => lh16 (Nat.le_trans (h9.2 k) (Nat.pow_le_pow_right (by omega) h8)) (by decide)⟩
  have hDB : hid (∀ k, k < d M + 1 → ((D k).natAbs : Int) < 65536 ^ 53) := fun k _ => lh16 (hDb k) (by decide)
  clear hDb hF832 hfin hB
  refine q_aload_n d_Mo_part_47 rfl ?_
  refine q_bipush d_Mo_part_48 (by decide) ?_
  refine q_iconst d_Mo_part_50 rfl ?_
  refine q_callV (As := [vi 7, vi 4]) (c_Mo_copyPoly l K (p := 7) (i := 4) (n := a) (P := D) hLL (by decide) (by decide) (by decide) (by omega) j2 j3) w_cd_Mo_copyPoly w_ini_Mo w_ml_Mo_89 w_im_Mo_copyPoly w_se_Mo_copyPoly hM0 rfl hd_Mo_copyPoly rfl (Nat.le_of_ble_eq_true rfl) d_Mo_part_51 (by decide) (by decide) (fun v σ4 hp => ?_)
  obtain ⟨rfl, l1a, l2, l3, l4, l5⟩ := hp
  subst ha
  refine q_aload_n d_Mo_part_54 rfl ?_
  refine q_iconst d_Mo_part_55 rfl ?_
  refine q_iload_n d_Mo_part_56 rfl ?_
  refine q_iadd d_Mo_part_57 ?_
  refine q_topi (show (2 : Int) + (p : Int) = ((2 + p : Nat) : Int) by omega) ?_
  refine q_iload_n d_Mo_part_58 rfl ?_
  refine q_bipush d_Mo_part_59 (by decide) ?_
  refine q_callV (As := [vi ((2 + p : Nat) : Int), vi p, vi 7]) (c_Mo_exactly l K (o := 2 + p) (p := p) (i := 7) (n := n1 + 1 + 1) (b := d M + 1) (u := 471) (v := 53) (P := P) (Q := D) hLL (by omega) (by omega) (by decide) (by omega) (by omega) (by omega) (by omega) (by decide) (by decide) (by omega) (by omega) (by omega) (by rw [l4 _ (by omega), j5 _ (by omega) (by omega) (by omega) (by omega), k9 _ (by omega), k4 _ (by omega), hd]; omega) l1a (fun k hk => ((((hP k (by omega)).mv (k3 _ (by omega) (by omega))).mv (k8 _ (by omega))).mv (j4 _ (by omega) (by omega) (by omega))).mv (l3 _ (by omega))) l2 (fun t ht k _ => (hEB t (by omega)).1 k) (fun t ht k _ => (hEB t (by omega)).2 k) (fun k _ => Int.lt_of_lt_of_le ((hEB _ (by omega)).2 k) (ip_le (by decide) (by decide))) (by rw [show n1 + 1 + 1 - (d M + 1) = n1 + 1 - d M by omega]; exact y1) hDB (by decide)) w_cd_Mo_exactly w_ini_Mo w_ml_Mo_105 w_im_Mo_exactly w_se_Mo_exactly hM0 rfl hd_Mo_exactly rfl (Nat.le_of_ble_eq_true rfl) d_Mo_part_61 (by decide) (by decide) (fun v σ5 hp => ?_)
  obtain ⟨rfl, i1, i2, i3, i4, i5⟩ := hp
  rw [show n1 + 1 + 1 - (d M + 1) = n1 + 1 - d M by omega] at i1 i2 i3
  obtain ⟨kk, hkk, ekk⟩ := y2.mul hfc.2.1
  exact q_vret rfl (⟨rfl, ⟨_, n1 + 1 - d M, fcp_div hfc hkk ekk, by omega, y2.2.2.2, by rw [i1]; omega, fun k hk => i2 k (by omega)⟩, fun r h1 h2 h3 => ((((k3 r (by omega) (by omega)).trans (k8 r (by omega))).trans (j4 r (by omega) (by omega) (by omega))).trans (l3 r (by omega))).trans (i3 r (by omega) (by omega) (by omega)), fun j h1 h2 h3 h4 h5 => by rw [i4 j h1 h3 h4, l4 j h5, j5 j h2 h3 h4 h5, k9 j h2, k4 j h5], fun q h1 h2 h3 h4 h5 => by rw [i5 q h1 h2 h3 h4 h5, l5 q h1 h2 h3 h4, j6 q h1 h2 h3 h4 h5, k10 q h1 h2 h3 h4, k5 q h1 h2 h3 h4 h5]⟩) d_Mo_part_64
