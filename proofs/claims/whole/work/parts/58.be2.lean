/-! BENCH: signAtFraction, setDivisor -/
/-- the value at O / U times a power of U, coefficient by coefficient -/
def hf (P : Nat → Int) (n : Nat) (O U : Int) : Nat → Int
  | 0 => 0
  | i + 1 => hf P n O U i * O + P (n - i) * U ^ i
set_option maxHeartbeats 4000000 in
set_option maxRecDepth 100000 in
theorem c_Be_signAtFraction (l : Launch) (K : pw_K) {L : q_L} (σ : q_S) {b p o v N wP wo wv n u w1 w2 pw cw : Nat} {O U : Int} {P : Nat → Int} (hbL : beL L b) (hpL : pL L p N wP) (hLo : nL L o wo) (hLv : nL L v wv) (hnN : n < N) (hdp : p + 2 + 2 * N ≤ b ∨ b + 9 ≤ p) (hdo : o + 1 < b ∨ b + 9 ≤ o) (hdv : v + 1 < b ∨ b + 9 ≤ v) (hdeg : σ p 1 = n) (hP : ∀ k, k ≤ n → nV σ (p + 2 + 2 * k) wP (P k)) (hO : nV σ o wo O) (hU : nV σ v wv U) (hOb : (O.natAbs : Int) < 2147483648 ^ w1) (hUb : (U.natAbs : Int) < 2147483648 ^ w2) (hPb : ∀ k, k ≤ n → ((P k).natAbs : Int) < 2147483648 ^ cw) (hUp : ∀ i, i ≤ n + 1 → ((U ^ i).natAbs : Int) < 2147483648 ^ pw) (hH : ∀ i, i ≤ n → ((hf P n O U i).natAbs : Int) < 2147483648 ^ u) (hu1 : u + w1 ≤ 159) (hcp : cw + pw ≤ 159) (hpw : pw + w2 ≤ 160) : q_C l K L y_Be_signAtFraction b_Be_signAtFraction 8 (some .int) 3 [.ref b, .ref p, .ref o, .ref v] σ (fun r σ' => r = some (vi (hf P n O U (n + 1)).sign) ∧ ∀ q, (q ≤ b ∨ b + 9 ≤ q) → σ' q = σ q) := by
  have hb0 := hbL.1
  have h1 : nL L (b + 1) 160 := hbL.2.1 0 (by decide)
  have h2 : nL L (b + 3) 160 := hbL.2.1 1 (by decide)
  have hT : nL L (b + 5) 160 := hbL.2.1 2 (by decide)
  have h4 : nL L (b + 7) 160 := hbL.2.1 3 (by decide)
  obtain ⟨hp0, ⟨g, hg1, hg2⟩, hpn, hN⟩ := hpL
  have hHX : ∀ i, i ≤ n → ((hf P n O U i * O).natAbs : Int) < 2147483648 ^ (160 - 1) := fun i hi => by
    have := mul_lt_pow (hH i hi) hOb
    have := ip_le (B := 2147483648) (by decide) (show u + w1 ≤ 160 - 1 by omega)
    omega
  have hTb : ∀ i, i ≤ n → ((P (n - i) * U ^ i).natAbs : Int) < 2147483648 ^ (160 - 1) := fun i hi => by
    have := mul_lt_pow (hPb (n - i) (by omega)) (hUp i (by omega))
    have := ip_le (B := 2147483648) (by decide) (show cw + pw ≤ 160 - 1 by omega)
    omega
  refine q_start [some (.ref b), some (.ref p), some (.ref o), some (.ref v), none, none, none, none] (by decide) (Nat.le_of_ble_eq_true rfl) (fun q h => h) ?_
  have loop : ∀ (d i : Nat), i + d = n + 1 → ∀ (σ1 : q_S) (na nb : Nat), ((na = b + 1 ∧ nb = b + 3) ∨ (na = b + 3 ∧ nb = b + 1)) → nV σ1 na 160 (hf P n O U i) → nV σ1 (b + 7) 160 (U ^ i) → (∀ q, (q ≤ b ∨ b + 9 ≤ q) → σ1 q = σ q) → ∀ t : Int, t = (n : Int) - i →  q_T l K L R_Be b_Be_signAtFraction 8 (some .int) 3 (fun r σ' => r = some (vi (hf P n O U (n + 1)).sign) ∧ ∀ q, (q ≤ b ∨ b + 9 ≤ q) → σ' q = σ q) 31 [some (.ref b), some (.ref p), some (.ref o), some (.ref v), some (.ref na), some (.ref nb), some (vi t), none] [] σ1 := by
    intro d
    induction d with
    | zero =>
      intro i hi σ1 na nb hab f1 f2 f3 t ht
      refine q_iload d_Be_signAtFraction_31 rfl ?_
      refine q_if_lt (tgt := 113) (by omega) d_Be_signAtFraction_33 (by decide) (fun c33 => ?_) (fun c33 => absurd c33 (by omega))
      have hna : nL L na 160 := by rcases hab with ⟨h, -⟩ | ⟨h, -⟩ <;> rw [h] <;> assumption
      refine q_aload d_Be_signAtFraction_113 rfl ?_
      refine q_gi hna.1.1 pc_Nu 2 (by decide) w_fl_Be_118 rfl (by rfl) d_Be_signAtFraction_115 ?_
      refine q_topi f1.sgn ?_
      exact q_iret rfl (⟨by rw [show n + 1 = i by omega], f3⟩) d_Be_signAtFraction_118
    | succ d ih =>
      intro i hi σ1 na nb hab f1 f2 f3 t ht
      refine q_iload d_Be_signAtFraction_31 rfl ?_
      refine q_if_lt (tgt := 113) (by omega) d_Be_signAtFraction_33 (by decide) (fun c33 => absurd c33 (by omega)) (fun c33 => ?_)
      have hna : nL L na 160 := by rcases hab with ⟨h, -⟩ | ⟨h, -⟩ <;> rw [h] <;> assumption
      have hnb : nL L nb 160 := by rcases hab with ⟨-, h⟩ | ⟨-, h⟩ <;> rw [h] <;> assumption
      have hk : n - i < N := by omega
      have hc := hP (n - i) (by omega)
      have dP : p + 2 + 2 * (n - i) + 1 < b ∨ b + 9 ≤ p + 2 + 2 * (n - i) := by omega
      refine q_aload d_Be_signAtFraction_36 rfl ?_
      refine q_aload d_Be_signAtFraction_38 rfl ?_
      refine q_aload_n d_Be_signAtFraction_40 rfl ?_
      refine q_callV (As := [.ref na, .ref o]) (c_Nu_setProduct l K (u := u) (v := w1) hnb hna hLo (by omega) (by omega) f1 (hO.mv (f3 _ (by omega)) (f3 _ (by omega))) (hH i (by omega)) hOb (by omega)) w_cd_Nu_setProduct w_ini_Nu w_ml_Be_91 w_im_Nu_setProduct w_se_Nu_setProduct hnb.1.1 rfl hd_Nu_setProduct rfl (Nat.le_of_ble_eq_true rfl) d_Be_signAtFraction_41 (by decide) (by decide) (fun v σ2 hp => ?_)
      obtain ⟨rfl, k1, k2⟩ := hp
      have k1p := f2.mv (k2 _ (by omega) (by omega)) (k2 _ (by omega) (by omega))
      refine q_aload_n d_Be_signAtFraction_44 rfl ?_
      refine q_gr hb0 pc_Be 2 (by decide) w_fl_Be_23 rfl (by rfl) d_Be_signAtFraction_45 ?_
      refine q_aload_n d_Be_signAtFraction_48 rfl ?_
      refine q_gr hp0 pc_Py 0 (by decide) w_fl_Be_95 rfl (by rfl) d_Be_signAtFraction_49 ?_
      refine q_iload d_Be_signAtFraction_52 rfl ?_
      refine q_aal (n - i) 4 (b := p + 2 + 2 * (n - i)) rfl hg1 (by omega) (by omega) (by omega) (hg2 _ hk) d_Be_signAtFraction_54 ?_
      refine q_aload_n d_Be_signAtFraction_55 rfl ?_
      refine q_gr hb0 pc_Be 3 (by decide) w_fl_Be_26 rfl (by rfl) d_Be_signAtFraction_56 ?_
      refine q_callV (As := [.ref (p + 2 + 2 * (n - i)), .ref (b + 7)]) (c_Nu_setProduct l K (u := cw) (v := pw) hT (hpn (n - i) hk) h4 (by omega) (by omega) (hc.mv (by rw [k2 _ (by omega) (by omega)]; exact f3 _ (by omega)) (by rw [k2 _ (by omega) (by omega)]; exact f3 _ (by omega))) k1p (hPb (n - i) (by omega)) (hUp i (by omega)) (by omega)) w_cd_Nu_setProduct w_ini_Nu w_ml_Be_91 w_im_Nu_setProduct w_se_Nu_setProduct hT.1.1 rfl hd_Nu_setProduct rfl (Nat.le_of_ble_eq_true rfl) d_Be_signAtFraction_59 (by decide) (by decide) (fun v σ3 hp => ?_)
      obtain ⟨rfl, k3, k4⟩ := hp
      refine q_aload d_Be_signAtFraction_62 rfl ?_
      refine q_aload_n d_Be_signAtFraction_64 rfl ?_
      refine q_gr hb0 pc_Be 2 (by decide) w_fl_Be_23 rfl (by rfl) d_Be_signAtFraction_65 ?_
      refine q_iconst d_Be_signAtFraction_68 rfl ?_
      refine q_callV (As := [.ref (b + 5), vi 1]) (c_Nu_add l K hnb hT (by omega) (k1.mv (k4 _ (by omega) (by omega)) (k4 _ (by omega) (by omega))) k3 (Or.inl rfl) (hHX i (by omega)) (hTb i (by omega))) w_cd_Nu_add w_ini_Nu w_ml_Be_110 w_im_Nu_add w_se_Nu_add hnb.1.1 rfl hd_Nu_add rfl (Nat.le_of_ble_eq_true rfl) d_Be_signAtFraction_69 (by decide) (by decide) (fun v σ4 hp => ?_)
      obtain ⟨rfl, k5, k6⟩ := hp
      have k5p := k1p.mv (σ' := σ4) (by rw [k6 _ (by omega) (by omega), k4 _ (by omega) (by omega)]) (by rw [k6 _ (by omega) (by omega), k4 _ (by omega) (by omega)])
      refine q_aload_n d_Be_signAtFraction_72 rfl ?_
      refine q_gr hb0 pc_Be 2 (by decide) w_fl_Be_23 rfl (by rfl) d_Be_signAtFraction_73 ?_
      refine q_aload_n d_Be_signAtFraction_76 rfl ?_
      refine q_gr hb0 pc_Be 3 (by decide) w_fl_Be_26 rfl (by rfl) d_Be_signAtFraction_77 ?_
      refine q_aload_n d_Be_signAtFraction_80 rfl ?_
      refine q_callV (As := [.ref (b + 7), .ref v]) (c_Nu_setProduct l K (u := pw) (v := w2) hT h4 hLv (by omega) (by omega) k5p (hU.mv (by rw [k6 _ (by omega) (by omega), k4 _ (by omega) (by omega), k2 _ (by omega) (by omega)]; exact f3 _ (by omega)) (by rw [k6 _ (by omega) (by omega), k4 _ (by omega) (by omega), k2 _ (by omega) (by omega)]; exact f3 _ (by omega))) (hUp i (by omega)) hUb (by omega)) w_cd_Nu_setProduct w_ini_Nu w_ml_Be_91 w_im_Nu_setProduct w_se_Nu_setProduct hT.1.1 rfl hd_Nu_setProduct rfl (Nat.le_of_ble_eq_true rfl) d_Be_signAtFraction_81 (by decide) (by decide) (fun v σ5 hp => ?_)
      obtain ⟨rfl, k7, k8⟩ := hp
      replace k7 : nV σ5 (b + 5) 160 (U ^ (i + 1)) := by rw [Int.pow_succ]; exact k7
      refine q_aload_n d_Be_signAtFraction_84 rfl ?_
      refine q_gr hb0 pc_Be 3 (by decide) w_fl_Be_26 rfl (by rfl) d_Be_signAtFraction_85 ?_
      refine q_aload_n d_Be_signAtFraction_88 rfl ?_
      refine q_gr hb0 pc_Be 2 (by decide) w_fl_Be_23 rfl (by rfl) d_Be_signAtFraction_89 ?_
      refine q_callV (As := [.ref (b + 5)]) (c_Nu_copy l K h4 hT (by omega) k7 (by have := hUp (i + 1) (by omega); have := ip_le (B := 2147483648) (by decide) (show pw ≤ 160 by omega); omega)) w_cd_Nu_copy w_ini_Nu w_ml_Be_99 w_im_Nu_copy w_se_Nu_copy h4.1.1 rfl hd_Nu_copy rfl (Nat.le_of_ble_eq_true rfl) d_Be_signAtFraction_92 (by decide) (by decide) (fun v σ6 hp => ?_)
      obtain ⟨rfl, k9, k10⟩ := hp
      refine q_aload d_Be_signAtFraction_95 rfl ?_
      refine q_ast_7 d_Be_signAtFraction_97 (by decide) rfl ?_
      refine q_aload d_Be_signAtFraction_99 rfl ?_
      refine q_ast_4 d_Be_signAtFraction_101 (by decide) rfl ?_
      refine q_aload d_Be_signAtFraction_103 rfl ?_
      refine q_ast_5 d_Be_signAtFraction_105 (by decide) rfl ?_
      refine q_iinc_6 d_Be_signAtFraction_107 (by decide) rfl ?_
      refine q_goto (tgt := 31) d_Be_signAtFraction_110 (by decide) ?_
      refine q_drop_7 ?_
      refine ih (i + 1) (by omega) σ6 nb na (by omega) ?_ k9 (fun q hq => ?_) _ (by omega)
      · rw [show hf P n O U (i + 1) = hf P n O U i * O + 1 * (P (n - i) * U ^ i) by rw [Int.one_mul]; rfl]
        exact k5.mv (by rw [k10 _ (by omega) (by omega), k8 _ (by omega) (by omega)]) (by rw [k10 _ (by omega) (by omega), k8 _ (by omega) (by omega)])
      · rw [k10 q (by omega) (by omega), k8 q (by omega) (by omega), k6 q (by omega) (by omega), k4 q (by omega) (by omega), k2 q (by omega) (by omega)]
        exact f3 q hq
  refine q_aload_n d_Be_signAtFraction_0 rfl ?_
  refine q_gr hb0 pc_Be 0 (by decide) w_fl_Be_14 rfl (by rfl) d_Be_signAtFraction_1 ?_
  refine q_ast_4 d_Be_signAtFraction_4 (by decide) rfl ?_
  refine q_aload_n d_Be_signAtFraction_6 rfl ?_
  refine q_gr hb0 pc_Be 1 (by decide) w_fl_Be_20 rfl (by rfl) d_Be_signAtFraction_7 ?_
  refine q_ast_5 d_Be_signAtFraction_10 (by decide) rfl ?_
  refine q_aload d_Be_signAtFraction_12 rfl ?_
  refine q_callV (As := []) (c_Nu_clear l K h1 σ) w_cd_Nu_clear w_ini_Nu w_ml_Be_81 w_im_Nu_clear w_se_Nu_clear h1.1.1 rfl hd_Nu_clear rfl (Nat.le_of_ble_eq_true rfl) d_Be_signAtFraction_14 (by decide) (by decide) (fun v σ1 hp => ?_)
  obtain ⟨rfl, rfl⟩ := hp
  refine q_aload_n d_Be_signAtFraction_17 rfl ?_
  refine q_gr hb0 pc_Be 3 (by decide) w_fl_Be_26 rfl (by rfl) d_Be_signAtFraction_18 ?_
  refine q_lconst (z := 1) d_Be_signAtFraction_21 (by decide) ?_
  refine q_callV (As := [vl 1]) (q_Nu_setLong l K _ h4 (by decide) (by omega)) w_cd_Nu_setLong w_ini_Nu w_ml_Be_114 w_im_Nu_setLong w_se_Nu_setLong h4.1.1 rfl hd_Nu_setLong rfl (Nat.le_of_ble_eq_true rfl) d_Be_signAtFraction_22 (by decide) (by decide) (fun v σ2 hp => ?_)
  obtain ⟨rfl, k1, k2⟩ := hp
  refine q_aload_n d_Be_signAtFraction_25 rfl ?_
  refine q_gi hp0 pc_Py 1 (by decide) w_fl_Be_84 rfl (by rfl) d_Be_signAtFraction_26 ?_
  refine q_topi (show _ = (n : Int) by rw [k2 _ (by omega) (by omega), q_fr2 (by omega)]; exact hdeg) ?_
  refine q_ist_6 d_Be_signAtFraction_29 (by decide) rfl ?_
  exact loop (n + 1) 0 (by omega) _ (b + 1) (b + 3) (Or.inl ⟨rfl, rfl⟩) ((nV_clear σ (b + 1) 160).mv (k2 _ (by omega) (by omega)) (k2 _ (by omega) (by omega))) (by rw [Int.pow_zero]; exact k1) (fun q hq => by rw [k2 q (by omega) (by omega), q_fr2 (by omega)]) _ (by omega)
/-- the greatest common divisor of the first k coefficients -/
def gn (P : Nat → Int) : Nat → Nat
  | 0 => 0
  | k + 1 => Nat.gcd (gn P k) (P k).natAbs
theorem gn_lt {P : Nat → Int} {W : Int} (hW : 0 < W) : ∀ k, (∀ i, i < k → ((P i).natAbs : Int) < W) → (gn P k : Int) < W := by
  intro k
  induction k with
  | zero => intro _; simpa [gn] using hW
  | succ k ih =>
    intro h
    have h1 := ih (fun i hi => h i (by omega))
    have h2 := h k (by omega)
    rw [gn]
    rcases Nat.eq_zero_or_pos (gn P k) with g | g
    · rw [g, Nat.gcd_zero_left]; exact h2
    · have := Nat.gcd_le_left (P k).natAbs g
      omega
theorem gn_dvd {P : Nat → Int} : ∀ k i, i < k → gn P k ∣ (P i).natAbs := by
  intro k
  induction k with
  | zero => intro i hi; omega
  | succ k ih =>
    intro i hi
    rw [gn]
    rcases Nat.lt_or_ge i k with g | g
    · exact Nat.dvd_trans (Nat.gcd_dvd_left _ _) (ih i g)
    · obtain rfl : i = k := by omega
      exact Nat.gcd_dvd_right _ _
theorem gn_pos {P : Nat → Int} {k i : Nat} (hi : i < k) (h : P i ≠ 0) : 0 < gn P k := by
  rcases Nat.eq_zero_or_pos (gn P k) with g | g
  · exfalso
    have := gn_dvd (P := P) k i hi
    rw [g] at this
    have := Nat.eq_zero_of_zero_dvd this
    omega
  · exact g
theorem td_le (x y : Int) : ((x.tdiv y).natAbs : Int) ≤ x.natAbs := by
  have h1 : (x.tdiv y).natAbs = x.natAbs / y.natAbs := Int.natAbs_tdiv x y
  rw [h1]
  exact Int.ofNat_le.mpr (Nat.div_le_self x.natAbs y.natAbs)
theorem top_full {P : Nat → Int} {n : Nat} (h : 0 < n) (hl : P (n - 1) ≠ 0) : top P n = n := by
  obtain ⟨k, rfl⟩ : ∃ k, n = k + 1 := ⟨n - 1, by omega⟩
  rw [show k + 1 - 1 = k by omega] at hl
  rw [top, if_neg hl]
set_option maxHeartbeats 4000000 in
set_option maxRecDepth 100000 in
theorem c_Be_setDivisor (l : Launch) (K : pw_K) {L : q_L} (σ : q_S) {b p N wP n : Nat} {P : Nat → Int} (hbL : beL L b) (hpL : pL L p N wP) (hn0 : 0 < n) (hn9 : n ≤ 9) (hnN : n ≤ N) (hdp0 : p + 2 + 2 * N ≤ b ∨ b + 91 ≤ p) (hdeg : σ p 1 = (n : Int) - 1) (hP : ∀ k, k < n → nV σ (p + 2 + 2 * k) wP (P k)) (hlead : P (n - 1) ≠ 0) (hPb : ∀ k, k < n → ((P k).natAbs : Int) < 2147483648 ^ 48) : q_C l K L y_Be_setDivisor b_Be_setDivisor 3 none 5 [.ref b, .ref p] σ (fun r σ' => r = none ∧ σ' (b + 71) 1 = (n : Int) - 1 ∧ (∀ k, k < n → nV σ' (b + 71 + 2 + 2 * k) 48 ((P k).tdiv (gn P n))) ∧ ∀ q, (q ≤ b ∨ (b + 3 ≤ q ∧ q ≤ b + 28) ∨ (b + 37 ≤ q ∧ q < b + 71) ∨ b + 91 ≤ q) → σ' q = σ q) := by
  have hb0 := hbL.1
  have h1 : nL L (b + 1) 160 := hbL.2.1 0 (by decide)
  have hdi : diL L (b + 28) := hbL.2.2.2.1
  have hdp : pL L (b + 71) 9 48 := hbL.2.2.2.2.2
  have htop := top_full hn0 hlead
  have hdp1 := hdp
  obtain ⟨hd0, ⟨g, hg1, hg2⟩, hdn, -⟩ := hdp1
  refine q_start [some (.ref b), some (.ref p), none] (by decide) (Nat.le_of_ble_eq_true rfl) (fun q h => h) ?_
  have loop2 : ∀ (d k : Nat), k + d = n → ∀ (σ1 : q_S), σ1 (b + 71) 1 = (n : Int) - 1 → nV σ1 (b + 1) 160 (gn P n) → (∀ i, i < k → nV σ1 (b + 71 + 2 + 2 * i) 48 ((P i).tdiv (gn P n))) → (∀ i, k ≤ i → i < n → nV σ1 (b + 71 + 2 + 2 * i) 48 (P i)) → (∀ q, (q ≤ b ∨ (b + 3 ≤ q ∧ q ≤ b + 28) ∨ (b + 37 ≤ q ∧ q < b + 71) ∨ b + 91 ≤ q) → σ1 q = σ q) → ∀ t : Int, t = k → q_T l K L R_Be b_Be_setDivisor 3 none 5 (fun r σ' => r = none ∧ σ' (b + 71) 1 = (n : Int) - 1 ∧ (∀ k, k < n → nV σ' (b + 71 + 2 + 2 * k) 48 ((P k).tdiv (gn P n))) ∧ ∀ q, (q ≤ b ∨ (b + 3 ≤ q ∧ q ≤ b + 28) ∨ (b + 37 ≤ q ∧ q < b + 71) ∨ b + 91 ≤ q) → σ' q = σ q) 56 [some (.ref b), some (.ref p), some (vi t)] [] σ1 := by
    intro d
    induction d with
    | zero =>
      intro k hk σ1 f1 f2 f3 f4 f5 t ht
      refine q_iload_n d_Be_setDivisor_56 rfl ?_
      refine q_aload_n d_Be_setDivisor_57 rfl ?_
      refine q_gr hb0 pc_Be 15 (by decide) w_fl_Be_78 rfl (by rfl) d_Be_setDivisor_58 ?_
      refine q_gi hd0 pc_Py 1 (by decide) w_fl_Be_84 rfl (by rfl) d_Be_setDivisor_61 ?_
      refine q_topi f1 ?_
      refine q_icmp_gt (tgt := 112) (by omega) (by omega) d_Be_setDivisor_64 (by decide) (fun c64 => ?_) (fun c64 => absurd c64 (by omega))
      exact q_vret rfl (⟨rfl, f1, fun i hi => f3 i (by omega), f5⟩) d_Be_setDivisor_112
    | succ d ih =>
      intro k hk σ1 f1 f2 f3 f4 f5 t ht
      refine q_iload_n d_Be_setDivisor_56 rfl ?_
      refine q_aload_n d_Be_setDivisor_57 rfl ?_
      refine q_gr hb0 pc_Be 15 (by decide) w_fl_Be_78 rfl (by rfl) d_Be_setDivisor_58 ?_
      refine q_gi hd0 pc_Py 1 (by decide) w_fl_Be_84 rfl (by rfl) d_Be_setDivisor_61 ?_
      refine q_topi f1 ?_
      refine q_icmp_gt (tgt := 112) (by omega) (by omega) d_Be_setDivisor_64 (by decide) (fun c64 => absurd c64 (by omega)) (fun c64 => ?_)
      refine q_aload_n d_Be_setDivisor_67 rfl ?_
      refine q_gr hb0 pc_Be 13 (by decide) w_fl_Be_63 rfl (by rfl) d_Be_setDivisor_68 ?_
      refine q_aload_n d_Be_setDivisor_71 rfl ?_
      refine q_gr hb0 pc_Be 15 (by decide) w_fl_Be_78 rfl (by rfl) d_Be_setDivisor_72 ?_
      refine q_gr hd0 pc_Py 0 (by decide) w_fl_Be_95 rfl (by rfl) d_Be_setDivisor_75 ?_
      refine q_iload_n d_Be_setDivisor_78 rfl ?_
      refine q_aal (k) 4 (b := b + 71 + 2 + 2 * k) rfl hg1 (by omega) (by omega) (by omega) (hg2 _ (by omega)) d_Be_setDivisor_79 ?_
      refine q_aload_n d_Be_setDivisor_80 rfl ?_
      refine q_gr hb0 pc_Be 0 (by decide) w_fl_Be_14 rfl (by rfl) d_Be_setDivisor_81 ?_
      refine q_callV (As := [.ref (b + 71 + 2 + 2 * k), .ref (b + 1)]) (c_Di_divide l K hdi (hdn k (by omega)) h1 (by omega) (by omega) (f4 k (Nat.le_refl k) (by omega)) f2 (by have := gn_pos (P := P) (k := n) (i := n - 1) (by omega) hlead; omega) (by have := hPb k (by omega); have := ip_le (B := 2147483648) (by decide) (show 48 ≤ 158 by decide); omega) (by have := gn_lt (P := P) (ip_pos (B := 2147483648) (by decide) 48) n hPb; have := ip_le (B := 2147483648) (by decide) (show 48 ≤ 158 by decide); omega)) w_cd_Di_divide w_ini_Di w_ml_Be_127 w_im_Di_divide w_se_Di_divide hdi.1 rfl hd_Di_divide rfl (Nat.le_of_ble_eq_true rfl) d_Be_setDivisor_84 (by decide) (by decide) (fun v σ2 hp => ?_)
      obtain ⟨rfl, k1, k2, k3⟩ := hp
      refine q_aload_n d_Be_setDivisor_87 rfl ?_
      refine q_gr hb0 pc_Be 15 (by decide) w_fl_Be_78 rfl (by rfl) d_Be_setDivisor_88 ?_
      refine q_gr hd0 pc_Py 0 (by decide) w_fl_Be_95 rfl (by rfl) d_Be_setDivisor_91 ?_
      refine q_iload_n d_Be_setDivisor_94 rfl ?_
      refine q_aal (k) 4 (b := b + 71 + 2 + 2 * k) rfl hg1 (by omega) (by omega) (by omega) (hg2 _ (by omega)) d_Be_setDivisor_95 ?_
      refine q_aload_n d_Be_setDivisor_96 rfl ?_
      refine q_gr hb0 pc_Be 13 (by decide) w_fl_Be_63 rfl (by rfl) d_Be_setDivisor_97 ?_
      refine q_gr hdi.1 pc_Di 0 (by decide) w_fl_Be_130 rfl (by rfl) d_Be_setDivisor_100 ?_
      refine q_callV (As := [.ref (b + 28 + 1)]) (c_Nu_copy l K (hdn k (by omega)) hdi.2.1 (by omega) k1 (by have := hPb k (by omega); have := td_le (P k) (gn P n : Int); omega)) w_cd_Nu_copy w_ini_Nu w_ml_Be_99 w_im_Nu_copy w_se_Nu_copy (hdn k (by omega)).1.1 rfl hd_Nu_copy rfl (Nat.le_of_ble_eq_true rfl) d_Be_setDivisor_103 (by decide) (by decide) (fun v σ3 hp => ?_)
      obtain ⟨rfl, k4, k5⟩ := hp
      refine q_iinc_2 d_Be_setDivisor_106 (by decide) rfl ?_
      refine q_goto (tgt := 56) d_Be_setDivisor_109 (by decide) ?_
      refine ih (k + 1) (by omega) σ3 (by rw [k5 _ (by omega) (by omega), k3 _ (by omega)]; exact f1) (f2.mv (by rw [k5 _ (by omega) (by omega), k3 _ (by omega)]) (by rw [k5 _ (by omega) (by omega), k3 _ (by omega)])) (fun i hi => ?_) (fun i h6 h7 => (f4 i (by omega) h7).mv (by rw [k5 _ (by omega) (by omega), k3 _ (by omega)]) (by rw [k5 _ (by omega) (by omega), k3 _ (by omega)])) (fun q hq => by rw [k5 q (by omega) (by omega), k3 q (by omega)]; exact f5 q hq) _ (by omega)
      exact if e : i = k then by subst e; exact k4 else (f3 i (by omega)).mv (by rw [k5 _ (by omega) (by omega), k3 _ (by omega)]) (by rw [k5 _ (by omega) (by omega), k3 _ (by omega)])
  have loop1 : ∀ (d k : Nat), k + d = n → ∀ (σ1 : q_S), σ1 (b + 71) 1 = (n : Int) - 1 → nV σ1 (b + 1) 160 (gn P k) → (∀ i, i < n → nV σ1 (b + 71 + 2 + 2 * i) 48 (P i)) → (∀ q, (q ≤ b ∨ (b + 3 ≤ q ∧ q ≤ b + 28) ∨ (b + 37 ≤ q ∧ q < b + 71) ∨ b + 91 ≤ q) → σ1 q = σ q) → ∀ t : Int, t = k → q_T l K L R_Be b_Be_setDivisor 3 none 5 (fun r σ' => r = none ∧ σ' (b + 71) 1 = (n : Int) - 1 ∧ (∀ k, k < n → nV σ' (b + 71 + 2 + 2 * k) 48 ((P k).tdiv (gn P n))) ∧ ∀ q, (q ≤ b ∨ (b + 3 ≤ q ∧ q ≤ b + 28) ∨ (b + 37 ≤ q ∧ q < b + 71) ∨ b + 91 ≤ q) → σ' q = σ q) 17 [some (.ref b), some (.ref p), some (vi t)] [] σ1 := by
    intro d
    induction d with
    | zero =>
      intro k hk σ1 f1 f2 f3 f4 t ht
      refine q_iload_n d_Be_setDivisor_17 rfl ?_
      refine q_aload_n d_Be_setDivisor_18 rfl ?_
      refine q_gr hb0 pc_Be 15 (by decide) w_fl_Be_78 rfl (by rfl) d_Be_setDivisor_19 ?_
      refine q_gi hd0 pc_Py 1 (by decide) w_fl_Be_84 rfl (by rfl) d_Be_setDivisor_22 ?_
      refine q_topi f1 ?_
      refine q_icmp_gt (tgt := 54) (by omega) (by omega) d_Be_setDivisor_25 (by decide) (fun c25 => ?_) (fun c25 => absurd c25 (by omega))
      refine q_iconst d_Be_setDivisor_54 rfl ?_
      refine q_ist_n_2 d_Be_setDivisor_55 (by decide) rfl ?_
      exact loop2 n 0 (by omega) σ1 f1 (by rw [show n = k by omega]; exact f2) (fun i hi => by omega) (fun i _ hi => f3 i hi) f4 _ rfl
    | succ d ih =>
      intro k hk σ1 f1 f2 f3 f4 t ht
      refine q_iload_n d_Be_setDivisor_17 rfl ?_
      refine q_aload_n d_Be_setDivisor_18 rfl ?_
      refine q_gr hb0 pc_Be 15 (by decide) w_fl_Be_78 rfl (by rfl) d_Be_setDivisor_19 ?_
      refine q_gi hd0 pc_Py 1 (by decide) w_fl_Be_84 rfl (by rfl) d_Be_setDivisor_22 ?_
      refine q_topi f1 ?_
      refine q_icmp_gt (tgt := 54) (by omega) (by omega) d_Be_setDivisor_25 (by decide) (fun c25 => absurd c25 (by omega)) (fun c25 => ?_)
      refine q_aload_n d_Be_setDivisor_28 rfl ?_
      refine q_gr hb0 pc_Be 13 (by decide) w_fl_Be_63 rfl (by rfl) d_Be_setDivisor_29 ?_
      refine q_aload_n d_Be_setDivisor_32 rfl ?_
      refine q_gr hb0 pc_Be 0 (by decide) w_fl_Be_14 rfl (by rfl) d_Be_setDivisor_33 ?_
      refine q_aload_n d_Be_setDivisor_36 rfl ?_
      refine q_gr hb0 pc_Be 15 (by decide) w_fl_Be_78 rfl (by rfl) d_Be_setDivisor_37 ?_
      refine q_gr hd0 pc_Py 0 (by decide) w_fl_Be_95 rfl (by rfl) d_Be_setDivisor_40 ?_
      refine q_iload_n d_Be_setDivisor_43 rfl ?_
      refine q_aal (k) 4 (b := b + 71 + 2 + 2 * k) rfl hg1 (by omega) (by omega) (by omega) (hg2 _ (by omega)) d_Be_setDivisor_44 ?_
      refine q_callV (As := [.ref (b + 1), .ref (b + 71 + 2 + 2 * k)]) (c_Di_reduceToCommon l K (w0 := 48) hdi h1 (hdn k (by omega)) (by omega) (by omega) f2 (f3 k (by omega)) (by decide) (by decide) (by have := gn_lt (P := P) (ip_pos (B := 2147483648) (by decide) 48) k (fun i hi => hPb i (by omega)); simpa using this) (hPb k (by omega))) w_cd_Di_reduceToCommon w_ini_Di w_ml_Be_124 w_im_Di_reduceToCommon w_se_Di_reduceToCommon hdi.1 rfl hd_Di_reduceToCommon rfl (Nat.le_of_ble_eq_true rfl) d_Be_setDivisor_45 (by decide) (by decide) (fun v σ2 hp => ?_)
      obtain ⟨rfl, k1, k2⟩ := hp
      refine q_iinc_2 d_Be_setDivisor_48 (by decide) rfl ?_
      refine q_goto (tgt := 17) d_Be_setDivisor_51 (by decide) ?_
      exact ih (k + 1) (by omega) σ2 (by rw [k2 _ (by omega) (by omega) (by omega)]; exact f1) (by rw [gn]; simpa using k1) (fun i hi => (f3 i hi).mv (k2 _ (by omega) (by omega) (by omega)) (k2 _ (by omega) (by omega) (by omega))) (fun q hq => by rw [k2 q (by omega) (by omega) (by omega)]; exact f4 q hq) _ (by omega)
  refine q_aload_n d_Be_setDivisor_0 rfl ?_
  refine q_gr hb0 pc_Be 15 (by decide) w_fl_Be_78 rfl (by rfl) d_Be_setDivisor_1 ?_
  refine q_aload_n d_Be_setDivisor_4 rfl ?_
  refine q_callV (As := [.ref p]) (c_Py_copy l K (n := n) (P := P) hdp hpL (by decide) hn9 hnN (by omega) hdeg hP hPb) w_cd_Py_copy w_ini_Py w_ml_Be_121 w_im_Py_copy w_se_Py_copy hd0 rfl hd_Py_copy rfl (Nat.le_of_ble_eq_true rfl) d_Be_setDivisor_5 (by decide) (by decide) (fun v σ1 hp => ?_)
  obtain ⟨rfl, k1, k2, k3⟩ := hp
  refine q_aload_n d_Be_setDivisor_8 rfl ?_
  refine q_gr hb0 pc_Be 0 (by decide) w_fl_Be_14 rfl (by rfl) d_Be_setDivisor_9 ?_
  refine q_callV (As := []) (c_Nu_clear l K h1 σ1) w_cd_Nu_clear w_ini_Nu w_ml_Be_81 w_im_Nu_clear w_se_Nu_clear h1.1.1 rfl hd_Nu_clear rfl (Nat.le_of_ble_eq_true rfl) d_Be_setDivisor_12 (by decide) (by decide) (fun v σ2 hp => ?_)
  obtain ⟨rfl, rfl⟩ := hp
  refine q_iconst d_Be_setDivisor_15 rfl ?_
  refine q_ist_n_2 d_Be_setDivisor_16 (by decide) rfl ?_
  exact loop1 n 0 (by omega) _ (by rw [q_fr2 (by omega), k1, htop]) (nV_clear _ _ _) (fun i hi => (k2 i hi).mv (q_fr2 (by omega)) (q_fr2 (by omega))) (fun q hq => by rw [q_fr2 (by omega)]; exact k3 q (by omega)) _ rfl
