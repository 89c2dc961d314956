/-! THE CLASS'S LAYOUT; sign, of the class and of the reference -/
def diL (L : q_L) (a : Nat) : Prop := L a = some (.inl (3, [some (a + 1), some (a + 3), some (a + 5), some (a + 7)])) ∧ nL L (a + 1) 160 ∧ nL L (a + 3) 160 ∧ nL L (a + 5) 160 ∧ nL L (a + 7) 160
def chL (L : q_L) (a h : Nat) : Prop := L a = some (.inl (5, [some (a + 1), none, none])) ∧ (∃ g : Nat → Option Nat, L (a + 1) = some (.inr (5, 10, some g)) ∧ ∀ k, k < 10 → g k = some (a + chO h k)) ∧ ∀ k, k < 10 → pL L (a + chO h k) (chN h k) 48
def roL (L : q_L) (a : Nat) : Prop := L a = some (.inl (6, [some (a + 1), none, none, none, none])) ∧ nL L (a + 1) 48
def beL (L : q_L) (b : Nat) : Prop := L b = some (.inl (4, [some (b + 1), some (b + 3), some (b + 5), some (b + 7), some (b + 9), some (b + 11), some (b + 13), some (b + 15), some (b + 17), some (b + 19), some (b + 21), some (b + 23), some (b + 25), some (b + 28), some (b + 37), some (b + 71)])) ∧ (∀ k, k < 12 → nL L (b + 1 + 2 * k) 160) ∧ ptL L (b + 25) ∧ diL L (b + 28) ∧ pL L (b + 37) 16 160 ∧ pL L (b + 71) 9 48
def heL (L : q_L) (h : Nat) : Prop := L h = some (.inl (7, [some (h + 1), some (h + 2), some (h + 22), some (h + 152), none, none, none, none, none])) ∧ L (h + 1) = some (.inr (0, 9, none)) ∧ pL L (h + 2) 9 48 ∧ chL L (h + 22) 9 ∧ (∃ g : Nat → Option Nat, L (h + 152) = some (.inr (6, 8, some g)) ∧ ∀ k, k < 8 → g k = some (h + 153 + 3 * k)) ∧ ∀ k, k < 8 → roL L (h + 153 + 3 * k)
def quL (L : q_L) (a : Nat) : Prop := L a = some (.inl (8, [some (a + 1), some (a + 145)])) ∧ chL L (a + 1) 16 ∧ pL L (a + 145) 9 48
def txL (L : q_L) (a : Nat) : Prop := L a = some (.inl (9, [some (a + 1), some (a + 2), some (a + 3), none])) ∧ L (a + 1) = some (.inr (3, 128, none)) ∧ L (a + 2) = some (.inr (3, 128, none)) ∧ nL L (a + 3) 160
def dL (L : q_L) (a : Nat) : Prop := L a = some (.inl (10, [some (a + 1), some (a + 356), some (a + 447), some (a + 612)])) ∧ (∃ g : Nat → Option Nat, L (a + 1) = some (.inr (7, 2, some g)) ∧ ∀ k, k < 2 → g k = some (a + 2 + 177 * k)) ∧ (∀ k, k < 2 → heL L (a + 2 + 177 * k)) ∧ beL L (a + 356) ∧ quL L (a + 447) ∧ txL L (a + 612)
theorem beL.vb {L : q_L} {b : Nat} (h : beL L b) : vbL L b := ⟨⟨_, h.1⟩, h.2.1 0 (by decide), h.2.1 1 (by decide), h.2.1 2 (by decide)⟩
theorem ab_add (x y : Int) : ((x + y).natAbs : Int) ≤ x.natAbs + y.natAbs := by omega
theorem ip_mono {a b : Int} (h0 : 0 ≤ a) (h : a ≤ b) (n : Nat) : a ^ n ≤ b ^ n := by
  induction n with
  | zero => simp
  | succ n ih =>
    rw [Int.pow_succ, Int.pow_succ]
    have h1 : 0 ≤ b ^ n := Int.pow_nonneg (by omega)
    exact Int.mul_le_mul ih h h0 h1
theorem hv_le {P : Nat → Int} {n : Nat} {X C M : Int} {ex : Nat} (hM : 1 ≤ M) (hC : 0 ≤ C) (hX : (X.natAbs : Int) ≤ M) (hE : (2 : Int) ^ ex ≤ M) (hP : ∀ k, k ≤ n → ((P k).natAbs : Int) ≤ C) (i : Nat) : ((hv P n X ex i).natAbs : Int) ≤ C * (2 * M) ^ i := by
  induction i with
  | zero => simpa [hv] using hC
  | succ i ih =>
    have h1 := ab_add (hv P n X ex i * X) (P (n - i) * 2 ^ (ex * i))
    rw [Int.natAbs_mul, Int.natAbs_mul, Int.natCast_mul, Int.natCast_mul] at h1
    have hp := ip_pos (B := 2 * M) (by omega) i
    have h2 : ((hv P n X ex i).natAbs : Int) * X.natAbs ≤ C * (2 * M) ^ i * M := Int.mul_le_mul ih hX (by omega) (Int.mul_nonneg hC (by omega))
    have h3 : ((2 ^ (ex * i) : Int).natAbs : Int) ≤ (2 * M) ^ i := by
      have h4 := ip_pos (B := 2) (by decide) (ex * i)
      rw [show (((2 : Int) ^ (ex * i)).natAbs : Int) = 2 ^ (ex * i) by omega, Int.pow_mul]
      exact ip_mono (Int.le_of_lt (ip_pos (by decide) ex)) (by omega) i
    have h5 : ((P (n - i)).natAbs : Int) * ((2 ^ (ex * i) : Int).natAbs : Int) ≤ C * (2 * M) ^ i := Int.mul_le_mul (hP _ (by omega)) h3 (by omega) hC
    have h6 : C * (2 * M) ^ i * 1 ≤ C * (2 * M) ^ i * M := Int.mul_le_mul_of_nonneg_left hM (Int.mul_nonneg hC (by omega))
    rw [Int.pow_succ]
    show ((hv P n X ex i * X + P (n - i) * 2 ^ (ex * i)).natAbs : Int) ≤ _
    have h7 : C * ((2 * M) ^ i * (2 * M)) = C * (2 * M) ^ i * M + C * (2 * M) ^ i * M := by grind
    omega
set_option maxHeartbeats 4000000 in
set_option maxRecDepth 100000 in
theorem q_D_checkPolynomial (l : Launch) (K : pw_K) (L : q_L) (σ : q_S) (a : Nat) {p : Int} (h : 0 ≤ p ∧ p < 2) : q_C l K L y_D_checkPolynomial b_D_checkPolynomial 2 none 0 [.ref a, vi p] σ (fun v σ' => v = none ∧ σ' = σ) := by
  refine q_start [some (.ref a), some (vi p)] (by decide) (Nat.le_of_ble_eq_true rfl) (fun q h => h) ?_
  refine q_iload_n d_D_checkPolynomial_0 rfl ?_
  refine q_if_lt (tgt := 9) (by omega) d_D_checkPolynomial_1 (by decide) (fun c1 => absurd c1 (by omega)) (fun c1 => ?_)
  refine q_iload_n d_D_checkPolynomial_4 rfl ?_
  refine q_iconst d_D_checkPolynomial_5 rfl ?_
  refine q_icmp_lt (tgt := 19) (by omega) (by omega) d_D_checkPolynomial_6 (by decide) (fun c6 => ?_) (fun c6 => absurd c6 (by omega))
  exact q_vret rfl (⟨rfl, rfl⟩) d_D_checkPolynomial_19
set_option maxHeartbeats 4000000 in
set_option maxRecDepth 100000 in
theorem q_D_checkExponent (l : Launch) (K : pw_K) (L : q_L) (σ : q_S) (a : Nat) {p : Int} (h : 0 ≤ p ∧ p ≤ 62) : q_C l K L y_D_checkExponent b_D_checkExponent 2 none 0 [.ref a, vi p] σ (fun v σ' => v = none ∧ σ' = σ) := by
  refine q_start [some (.ref a), some (vi p)] (by decide) (Nat.le_of_ble_eq_true rfl) (fun q h => h) ?_
  refine q_iload_n d_D_checkExponent_0 rfl ?_
  refine q_if_lt (tgt := 10) (by omega) d_D_checkExponent_1 (by decide) (fun c1 => absurd c1 (by omega)) (fun c1 => ?_)
  refine q_iload_n d_D_checkExponent_4 rfl ?_
  refine q_bipush d_D_checkExponent_5 (by decide) ?_
  refine q_icmp_le (tgt := 20) (by omega) (by omega) d_D_checkExponent_7 (by decide) (fun c7 => ?_) (fun c7 => absurd c7 (by omega))
  exact q_vret rfl (⟨rfl, rfl⟩) d_D_checkExponent_20
set_option maxHeartbeats 4000000 in
set_option maxRecDepth 100000 in
theorem q_D_some (l : Launch) (K : pw_K) {L : q_L} (σ : q_S) {a j : Nat} (hL : dL L a) (hj : j < 2) {dg : Int} (hdg : σ (a + 2 + 177 * j + 2) 1 = dg) (h0 : 0 ≤ dg ∧ dg < 100) : q_C l K L y_D_some b_D_some 3 (some (.object "SturmDesk$Held")) 0 [.ref a, vi j] σ (fun v σ' => v = some (.ref (a + 2 + 177 * j)) ∧ σ' = σ) := by
  obtain ⟨hd0, ⟨g, hg1, hg2⟩, hhe, hbe, -, -⟩ := hL
  have hh := hhe j hj
  obtain ⟨hh0, -, hpy, -⟩ := hh
  obtain ⟨hp0, -⟩ := hpy
  refine q_start [some (.ref a), some (vi j), none] (by decide) (Nat.le_of_ble_eq_true rfl) (fun q h => h) ?_
  refine q_aload_n d_D_some_0 rfl ?_
  refine q_gr (by assumption) pc_D 0 (by decide) w_fl_D_11 rfl (by rfl) d_D_some_1 ?_
  refine q_iload_n d_D_some_4 rfl ?_
  refine q_aal (j) 7 (b := a + 2 + 177 * j) rfl hg1 (by omega) (by omega) (by omega) (hg2 j hj) d_D_some_5 ?_
  refine q_ast_n_2 d_D_some_6 (by decide) rfl ?_
  refine q_aload_n d_D_some_7 rfl ?_
  refine q_gr hh0 pc_He 1 (by decide) w_fl_D_52 rfl (by rfl) d_D_some_8 ?_
  refine q_gi hp0 pc_Py 1 (by decide) w_fl_D_56 rfl (by rfl) d_D_some_11 ?_
  refine q_topi hdg ?_
  refine q_if_ge (tgt := 27) (by omega) d_D_some_14 (by decide) (fun c14 => ?_) (fun c14 => absurd c14 (by omega))
  refine q_aload_n d_D_some_27 rfl ?_
  exact q_aret rfl (⟨rfl, rfl⟩) d_D_some_28
theorem hv31 {P : Nat → Int} {n ex : Nat} {X : Int} (hex : ex ≤ 62) (hX : -9223372036854775808 ≤ X ∧ X < 9223372036854775808) (hP : ∀ k, k ≤ n → ((P k).natAbs : Int) ≤ 2147483648) (i : Nat) (hi : i ≤ 8) : ((hv P n X ex i).natAbs : Int) ≤ 2 ^ 543 := by
  have h1 := hv_le (P := P) (n := n) (X := X) (ex := ex) (M := 9223372036854775808) (C := 2147483648) (by decide) (by decide) (by omega) (show (2 : Int) ^ ex ≤ 9223372036854775808 by have := ip_le (B := 2) (by decide) hex; rw [show (2 : Int) ^ 62 = 4611686018427387904 by decide] at this; omega) hP i
  have h2 := ip_le (B := 2 * 9223372036854775808) (by decide) hi
  have h3 : (2147483648 : Int) * (2 * 9223372036854775808) ^ 8 = 2 ^ 543 := by decide +kernel
  have h4 := Int.mul_le_mul_of_nonneg_left h2 (show (0 : Int) ≤ 2147483648 by decide)
  rw [h3] at h4
  exact Int.le_trans h1 h4
set_option maxHeartbeats 4000000 in
set_option maxRecDepth 100000 in
theorem q_D_sign (l : Launch) (K : pw_K) {L : q_L} (σ : q_S) {x j n ex : Nat} {a : Int} {P : Nat → Int} (hL : dL L x) (hj : j < 2) (hn : n ≤ 8) (hex : ex ≤ 62) (ha : -9223372036854775808 ≤ a ∧ a < 9223372036854775808) (hdeg : σ (x + 2 + 177 * j + 2) 1 = n) (hP : ∀ k, k ≤ n → nV σ (x + 2 + 177 * j + 2 + 2 + 2 * k) 48 (P k)) (hPb : ∀ k, k ≤ n → ((P k).natAbs : Int) ≤ 2147483648) : q_C l K L y_D_sign b_D_sign 6 (some .int) 4 [.ref x, vi j, vl a, vi ex] σ (fun v σ' => v = some (vi (hv P n a ex (n + 1)).sign) ∧ ∀ q, (q < x + 356 ∨ x + 356 + 91 ≤ q) → σ' q = σ q) := by
  have hL0 := hL
  obtain ⟨hd0, -, hhe, hbe, -, -⟩ := hL0
  have hh := hhe j hj
  obtain ⟨hh0, -, hpy, -⟩ := hh
  have hpt := hbe.2.2.1
  have hH31 : ∀ i, i ≤ n → ((hv P n a ex i).natAbs : Int) < 2147483648 ^ 18 := fun i hi => Int.lt_of_le_of_lt (hv31 hex ha hPb i (by omega)) (by decide +kernel)
  refine q_start [some (.ref x), some (vi j), some (vl a), none, some (vi ex), none] (by decide) (Nat.le_of_ble_eq_true rfl) (fun q h => h) ?_
  refine q_aload_n d_D_sign_0 rfl ?_
  refine q_iload_n d_D_sign_1 rfl ?_
  refine q_callV (As := [vi j]) (q_D_checkPolynomial l K L σ x (by omega)) w_cd_D_checkPolynomial w_ini_D w_ml_D_37 w_im_D_checkPolynomial w_se_D_checkPolynomial hd0 rfl hd_D_checkPolynomial rfl (Nat.le_of_ble_eq_true rfl) d_D_sign_2 (by decide) (by decide) (fun v σ1 hp => ?_)
  obtain ⟨rfl, hσ⟩ := hp
  rw [hσ]
  clear hσ σ1
  refine q_aload_n d_D_sign_5 rfl ?_
  refine q_iload d_D_sign_6 rfl ?_
  refine q_callV (As := [vi ex]) (q_D_checkExponent l K L σ x (by omega)) w_cd_D_checkExponent w_ini_D w_ml_D_76 w_im_D_checkExponent w_se_D_checkExponent hd0 rfl hd_D_checkExponent rfl (Nat.le_of_ble_eq_true rfl) d_D_sign_8 (by decide) (by decide) (fun v σ2 hp => ?_)
  obtain ⟨rfl, hσ⟩ := hp
  rw [hσ]
  clear hσ σ2
  refine q_aload_n d_D_sign_11 rfl ?_
  refine q_iload_n d_D_sign_12 rfl ?_
  refine q_callV (As := [vi j]) (q_D_some l K σ hL hj hdeg (by omega)) w_cd_D_some w_ini_D w_ml_D_62 w_im_D_some w_se_D_some hd0 rfl hd_D_some rfl (Nat.le_of_ble_eq_true rfl) d_D_sign_13 (by decide) (by decide) (fun v σ3 hp => ?_)
  obtain ⟨rfl, hσ⟩ := hp
  rw [hσ]
  clear hσ σ3
  refine q_ast_5 d_D_sign_16 (by decide) rfl ?_
  refine q_aload_n d_D_sign_18 rfl ?_
  refine q_gr hd0 pc_D 1 (by decide) w_fl_D_19 rfl (by rfl) d_D_sign_19 ?_
  refine q_gr hbe.1 pc_Be 12 (by decide) w_fl_D_79 rfl (by rfl) d_D_sign_22 ?_
  refine q_lload_n d_D_sign_25 rfl ?_
  refine q_iload d_D_sign_26 rfl ?_
  refine q_callV (As := [vl a, vi ex]) (c_Pt_placeLong l K σ (x := x + 356 + 25) hpt ha) w_cd_Pt_placeLong w_ini_Pt w_ml_D_83 w_im_Pt_placeLong w_se_Pt_placeLong hpt.1 rfl hd_Pt_placeLong rfl (Nat.le_of_ble_eq_true rfl) d_D_sign_28 (by decide) (by decide) (fun v σ5 hp => ?_)
  obtain ⟨rfl, k1, k2, k3⟩ := hp
  refine q_aload_n d_D_sign_31 rfl ?_
  refine q_gr hd0 pc_D 1 (by decide) w_fl_D_19 rfl (by rfl) d_D_sign_32 ?_
  refine q_aload d_D_sign_35 rfl ?_
  refine q_gr hh0 pc_He 1 (by decide) w_fl_D_52 rfl (by rfl) d_D_sign_37 ?_
  refine q_aload_n d_D_sign_40 rfl ?_
  refine q_gr hd0 pc_D 1 (by decide) w_fl_D_19 rfl (by rfl) d_D_sign_41 ?_
  refine q_gr hbe.1 pc_Be 12 (by decide) w_fl_D_79 rfl (by rfl) d_D_sign_44 ?_
  refine q_callV (As := [.ref (x + 2 + 177 * j + 2), .ref (x + 356 + 25)]) (c_Be_valueAt l K σ5 (p := x + 2 + 177 * j + 2) (N := 9) (wP := 48) (n := n) (z := 0) (ex := ex) (u := 18) (v := 3) (c := 2) (X := a) (P := P) hbe.vb hpy hpt (Or.inl rfl) (by omega) (by omega) (by omega) (by rw [k3 _ (by omega) (by omega) (by omega), hdeg]; omega) (fun k hk => (hP k hk).mv (k3 _ (by omega) (by omega) (by omega)) (k3 _ (by omega) (by omega) (by omega))) k1 k2 (by omega) (by rw [show (2147483648 : Int) ^ 3 = 9903520314283042199192993792 by decide]; omega) (fun k hk => by have := hPb k hk; rw [show (2147483648 : Int) ^ 2 = 4611686018427387904 by decide]; omega) hH31 (by decide) (by have := Nat.mul_le_mul hex hn; omega)) w_cd_Be_valueAt w_ini_Be w_ml_D_89 w_im_Be_valueAt w_se_Be_valueAt hbe.1 rfl hd_Be_valueAt rfl (Nat.le_of_ble_eq_true rfl) d_D_sign_47 (by decide) (by decide) (fun v σ6 hp => ?_)
  obtain ⟨⟨na, rfl, hna, k4⟩, k5⟩ := hp
  have hnl : L na = some (.inl (0, [some (na + 1), none, none])) := by rcases hna with rfl | rfl; exact hbe.vb.2.1.1.1; exact hbe.vb.2.2.1.1.1
  have hsg : σ6 na 2 = (hv P n a ex (n + 1)).sign := by obtain ⟨nn, hu, -⟩ := k4; exact hu.2.1
  refine q_gi hnl pc_Nu 2 (by decide) w_fl_D_93 rfl (by rfl) d_D_sign_50 ?_
  refine q_topi hsg ?_
  exact q_iret rfl (⟨rfl, fun q hq => by rw [k5 q (by omega), k3 q (by omega) (by omega) (by omega)]⟩) d_D_sign_53
set_option maxHeartbeats 4000000 in
set_option maxRecDepth 100000 in
theorem q_Mo_in (l : Launch) (K : pw_K) (L : q_L) (σ : q_S) {v lo hi : Int} (h1 : -9223372036854775808 ≤ v ∧ v < 9223372036854775808) (h2 : -9223372036854775808 ≤ lo ∧ lo < 9223372036854775808) (h3 : -9223372036854775808 ≤ hi ∧ hi < 9223372036854775808) : q_C l K L y_Mo_in b_Mo_in 6 (some .boolean) 0 [vl v, vl lo, vl hi] σ (fun r σ' => r = some (vi (if lo ≤ v ∧ v ≤ hi then 1 else 0)) ∧ σ' = σ) := by
  refine q_start [some (vl v), none, some (vl lo), none, some (vl hi), none] (by decide) (Nat.le_of_ble_eq_true rfl) (fun q h => h) ?_
  refine q_lload_n d_Mo_in_0 rfl ?_
  refine q_lload_n d_Mo_in_1 rfl ?_
  refine q_lcmp_lt (tgt := 17) h1 h2 d_Mo_in_2 d_Mo_in_3 (by decide) (fun c3 => ?_) (fun c3 => ?_)
  · refine q_iconst d_Mo_in_17 rfl ?_
    exact q_zret rfl (Or.inl rfl) (⟨by rw [if_neg (by omega)], rfl⟩) d_Mo_in_18
  · refine q_lload_n d_Mo_in_6 rfl ?_
    refine q_lload d_Mo_in_7 rfl ?_
    refine q_lcmp_gt (tgt := 17) h1 h3 d_Mo_in_9 d_Mo_in_10 (by decide) (fun c10 => ?_) (fun c10 => ?_)
    · refine q_iconst d_Mo_in_17 rfl ?_
      exact q_zret rfl (Or.inl rfl) (⟨by rw [if_neg (by omega)], rfl⟩) d_Mo_in_18
    · refine q_iconst d_Mo_in_13 rfl ?_
      refine q_goto (tgt := 18) d_Mo_in_14 (by decide) ?_
      exact q_zret rfl (Or.inr rfl) (⟨by rw [if_pos (by omega)], rfl⟩) d_Mo_in_18
set_option maxHeartbeats 4000000 in
set_option maxRecDepth 100000 in
theorem q_Mo_fails0 (l : Launch) (K : pw_K) {L : q_L} (σ : q_S) {m : Nat} {c : Int} (hL : mL L m) : q_C l K L y_Mo_fails b_Mo_fails 3 (some .boolean) 0 [.ref m, vi 0, vi c] σ (fun r σ' => r = some (vi 0) ∧ σ' = q_up σ m 0 0) := by
  have hM0 := hL.1
  refine q_start [some (.ref m), some (vi 0), some (vi c)] (by decide) (Nat.le_of_ble_eq_true rfl) (fun q h => h) ?_
  refine q_aload_n d_Mo_fails_0 rfl ?_
  refine q_iload_n d_Mo_fails_1 rfl ?_
  refine q_if_eq (tgt := 9) (by omega) d_Mo_fails_2 (by decide) (fun c2 => ?_) (fun c2 => absurd c2 (by omega))
  refine q_iconst d_Mo_fails_9 rfl ?_
  refine q_pi (by assumption) pc_Mo 0 (by decide) w_fl_Mo_39 rfl rfl rfl rfl (by rfl) d_Mo_fails_10 ?_
  refine q_iload_n d_Mo_fails_13 rfl ?_
  exact q_zret rfl (Or.inl rfl) (⟨rfl, rfl⟩) d_Mo_fails_14
set_option maxHeartbeats 4000000 in
set_option maxRecDepth 100000 in
theorem q_Mo_sign (l : Launch) (K : pw_K) {L : q_L} (σ : q_S) {m j n ex : Nat} {a : Int} {P : Nat → Int} (hL : mL L m) (hj : j < 2) (hn : n ≤ 8) (hex : ex ≤ 62) (ha : -9223372036854775808 ≤ a ∧ a < 9223372036854775808) (hdeg : σ (m + 4) j = n) (hP : ∀ k, k ≤ n → rV σ m (9 * j + k) (P k)) (hPb : ∀ k, k ≤ n → ((P k).natAbs : Int) ≤ 2147483648) : q_C l K L y_Mo_sign b_Mo_sign 5 (some .int) 4 [.ref m, vi j, vl a, vi ex] σ (fun rr σ' => rr = some (vi (hv P n a ex (n + 1)).sign) ∧ σ' m 0 = 0 ∧ (∀ k, k ≠ 0 → σ' m k = σ m k) ∧ (∀ q, q ≠ m → q ≠ m + 1 → q ≠ m + 2 → q ≠ m + 3 → q ≠ m + 9 → σ' q = σ q) ∧ ∀ j, j ≠ 103 → j ≠ 104 → j ≠ 112 → rE σ σ' m j) := by
  obtain ⟨hM0, hM1, hM2, hM3, hM4, hM5, hM6, hM7, hM8, hM9⟩ := hL
  have hand : Int32.ofInt (j : Int) &&& Int32.ofInt 1 = Int32.ofInt (j : Int) := by
    rcases (show j = 0 ∨ j = 1 by omega) with rfl | rfl <;> decide
  have hH16 : ∀ i, i ≤ n → ((hv P n a ex i).natAbs : Int) < 65536 ^ 34 := fun i hi => Int.lt_of_le_of_lt (hv31 hex ha hPb i (by omega)) (by decide +kernel)
  refine q_start [some (.ref m), some (vi j), some (vl a), none, some (vi ex)] (by decide) (Nat.le_of_ble_eq_true rfl) (fun q h => h) ?_
  refine q_aload_n d_Mo_sign_0 rfl ?_
  refine q_iload_n d_Mo_sign_1 rfl ?_
  refine q_i2l (by omega) d_Mo_sign_2 ?_
  refine q_lconst (z := 0) d_Mo_sign_3 (by decide) ?_
  refine q_lconst (z := 1) d_Mo_sign_4 (by decide) ?_
  refine q_callS (As := [vl j, vl 0, vl 1]) (q_Mo_in l K L _ (by omega) (by omega) (by omega)) w_cd_Mo_in w_ini_Mo w_ml_Mo_140 w_st_Mo_in hd_Mo_in rfl (Nat.le_of_ble_eq_true rfl) d_Mo_sign_5 (by decide) (by decide) (fun v σ1 hp => ?_)
  obtain ⟨rfl, hσ⟩ := hp
  rw [hσ]
  clear hσ σ1
  refine q_topi (if_pos (by omega)) ?_
  refine q_if_eq (tgt := 24) (by omega) d_Mo_sign_8 (by decide) (fun c8 => absurd c8 (by omega)) (fun c8 => ?_)
  refine q_iload d_Mo_sign_11 rfl ?_
  refine q_i2l (by omega) d_Mo_sign_13 ?_
  refine q_lconst (z := 0) d_Mo_sign_14 (by decide) ?_
  refine q_ldc2 (z := 62) w_kl_Mo_157 (by decide) d_Mo_sign_15 ?_
  refine q_callS (As := [vl ex, vl 0, vl 62]) (q_Mo_in l K L _ (by omega) (by omega) (by omega)) w_cd_Mo_in w_ini_Mo w_ml_Mo_140 w_st_Mo_in hd_Mo_in rfl (Nat.le_of_ble_eq_true rfl) d_Mo_sign_18 (by decide) (by decide) (fun v σ2 hp => ?_)
  obtain ⟨rfl, hσ⟩ := hp
  rw [hσ]
  clear hσ σ2
  refine q_topi (if_pos (by omega)) ?_
  refine q_if_ne (tgt := 28) (by omega) d_Mo_sign_21 (by decide) (fun c21 => ?_) (fun c21 => absurd c21 (by omega))
  refine q_iconst d_Mo_sign_28 rfl ?_
  refine q_iconst d_Mo_sign_29 rfl ?_
  refine q_callV (As := [vi 0, vi 1]) (q_Mo_fails0 l K _ ⟨hM0, hM1, hM2, hM3, hM4, hM5, hM6, hM7, hM8, hM9⟩) w_cd_Mo_fails w_ini_Mo w_ml_Mo_146 w_im_Mo_fails w_se_Mo_fails (by assumption) rfl hd_Mo_fails rfl (Nat.le_of_ble_eq_true rfl) d_Mo_sign_30 (by decide) (by decide) (fun v σ3 hp => ?_)
  obtain ⟨rfl, hσ⟩ := hp
  rw [hσ]
  clear hσ σ3
  refine q_if_ne (tgt := 60) (by omega) d_Mo_sign_33 (by decide) (fun c33 => absurd c33 (by omega)) (fun c33 => ?_)
  refine q_aload_n d_Mo_sign_36 rfl ?_
  refine q_aload_n d_Mo_sign_37 rfl ?_
  refine q_gr (by assumption) pc_Mo 4 (by decide) w_fl_Mo_20 rfl (by rfl) d_Mo_sign_38 ?_
  refine q_iload_n d_Mo_sign_41 rfl ?_
  refine q_iconst d_Mo_sign_42 rfl ?_
  refine q_iand (z := (j : Int)) hand d_Mo_sign_43 ?_
  refine q_ial (j) (by assumption) (by omega) (by omega) (by omega) d_Mo_sign_44 ?_
  refine q_topi (show _ = (n : Int) by rw [q_up_a _ _ (by omega)]; exact hdeg) ?_
  refine q_if_ge (tgt := 52) (by omega) d_Mo_sign_45 (by decide) (fun c45 => ?_) (fun c45 => absurd c45 (by omega))
  refine q_iconst d_Mo_sign_52 rfl ?_
  refine q_iconst d_Mo_sign_53 rfl ?_
  refine q_callV (As := [vi 0, vi 2]) (q_Mo_fails0 l K _ ⟨hM0, hM1, hM2, hM3, hM4, hM5, hM6, hM7, hM8, hM9⟩) w_cd_Mo_fails w_ini_Mo w_ml_Mo_146 w_im_Mo_fails w_se_Mo_fails (by assumption) rfl hd_Mo_fails rfl (Nat.le_of_ble_eq_true rfl) d_Mo_sign_54 (by decide) (by decide) (fun v σ4 hp => ?_)
  obtain ⟨rfl, hσ⟩ := hp
  rw [hσ]
  clear hσ σ4
  refine q_if_eq (tgt := 62) (by omega) d_Mo_sign_57 (by decide) (fun c57 => ?_) (fun c57 => absurd c57 (by omega))
  refine q_aload_n d_Mo_sign_62 rfl ?_
  refine q_bipush d_Mo_sign_63 (by decide) ?_
  refine q_lload_n d_Mo_sign_65 rfl ?_
  refine q_callV (As := [vi ((112 : Nat) : Int), vl a]) (q_Mo_set l K _ (r := 112) ⟨hM0, hM1, hM2, hM3, hM4, hM5, hM6, hM7, hM8, hM9⟩ (by omega) ha) w_cd_Mo_set w_ini_Mo w_ml_Mo_72 w_im_Mo_set w_se_Mo_set (by assumption) rfl hd_Mo_set rfl (Nat.le_of_ble_eq_true rfl) d_Mo_sign_66 (by decide) (by decide) (fun v σ5 hp => ?_)
  obtain ⟨rfl, k1, k2, k3, k4⟩ := hp
  have hq : ∀ q, q ≠ m → q_up (q_up σ m 0 0) m 0 0 q = σ q := fun q hq => by rw [q_up_a _ _ hq, q_up_a _ _ hq]
  have he0 : ∀ r, rE σ (q_up (q_up σ m 0 0) m 0 0) m r := fun r => ⟨fun k _ => by show q_up (q_up σ m 0 0) m 0 0 (m + 1) _ = σ (m + 1) _; rw [hq _ (by omega)], by rw [hq _ (by omega)], by rw [hq _ (by omega)]⟩
  refine q_aload_n d_Mo_sign_69 rfl ?_
  refine q_iload_n d_Mo_sign_70 rfl ?_
  refine q_bipush d_Mo_sign_71 (by decide) ?_
  refine q_iload d_Mo_sign_73 rfl ?_
  refine q_callV (As := [vi j, vi ((112 : Nat) : Int), vi ex]) (c_Mo_signOf l K σ5 (p := j) (w := 112) (n := n) (ex := ex) (u := 34) (v := 4) (c := 2) (X := a) (P := P) ⟨hM0, hM1, hM2, hM3, hM4, hM5, hM6, hM7, hM8, hM9⟩ (by omega) (by omega) (by omega) (by omega) hn (by omega) (by rw [k2 _ (by omega) (by omega) (by omega) (by omega), hq _ (by omega)]; exact hdeg) (fun k hk => ((hP k hk).mv (he0 _)).mv (k4 _ (by omega))) k1 (by rw [show (65536 : Int) ^ 4 = 18446744073709551616 by decide]; omega) (fun k hk => by have := hPb k hk; rw [show (65536 : Int) ^ 2 = 4294967296 by decide]; omega) hH16 (by decide) (by have := Nat.mul_le_mul hex hn; omega)) w_cd_Mo_signOf w_ini_Mo w_ml_Mo_131 w_im_Mo_signOf w_se_Mo_signOf (by assumption) rfl hd_Mo_signOf rfl (Nat.le_of_ble_eq_true rfl) d_Mo_sign_75 (by decide) (by decide) (fun v σ6 hp => ?_)
  obtain ⟨rfl, k5, k6⟩ := hp
  exact q_iret rfl (⟨rfl, by rw [k5 m (by omega) (by omega) (by omega) (by omega), k2 m (by omega) (by omega) (by omega) (by omega), q_up_self], fun k hk => by rw [k5 m (by omega) (by omega) (by omega) (by omega), k2 m (by omega) (by omega) (by omega) (by omega), q_up_k _ _ hk, q_up_k _ _ hk], fun q h0 h1 h2 h3 h9 => by rw [k5 q h1 h2 h3 h9, k2 q h1 h2 h3 h9, hq q h0], fun r h1 h2 h3 => ((he0 r).trans (k4 r h3)).trans (k6 r h1 h2)⟩) d_Mo_sign_78
