/-! BENCH: valueAt -/
/-- a polynomial's places -/
def pL (L : q_L) (p n w : Nat) : Prop := L p = some (.inl (2, [some (p + 1), none])) ∧ (∃ g : Nat → Option Nat, L (p + 1) = some (.inr (4, n, some g)) ∧ ∀ k, k < n → g k = some (p + 2 + 2 * k)) ∧ (∀ k, k < n → nL L (p + 2 + 2 * k) w) ∧ n < 1000
/-- the value, coefficient by coefficient from the top: i of them taken -/
def hv (P : Nat → Int) (n : Nat) (X : Int) (ex : Nat) : Nat → Int
  | 0 => 0
  | i + 1 => hv P n X ex i * X + P (n - i) * 2 ^ (ex * i)
/-- the numbers that valueAt uses -/
def vbL (L : q_L) (b : Nat) : Prop := (∃ fs : List (Option Nat), L b = some (.inl (4, some (b + 1) :: some (b + 3) :: some (b + 5) :: fs))) ∧ nL L (b + 1) 160 ∧ nL L (b + 3) 160 ∧ nL L (b + 5) 160
theorem mul_lt_pow {B x y : Int} {u v : Nat} (hx : (x.natAbs : Int) < B ^ u) (hy : (y.natAbs : Int) < B ^ v) : ((x * y).natAbs : Int) < B ^ (u + v) := by
  rw [Int.natAbs_mul, Int.natCast_mul, Int.pow_add]
  by_cases h0 : (y.natAbs : Int) = 0
  · rw [h0, Int.mul_zero]; exact Int.mul_pos (by omega) (by omega)
  · exact Int.lt_of_lt_of_le (Int.mul_lt_mul_of_pos_right hx (by omega)) (Int.mul_le_mul_of_nonneg_left (by omega) (by omega))
theorem pow2_lt (p : Nat) : ((2 ^ p : Int).natAbs : Int) < 2147483648 ^ (p / 31 + 1) := by
  have h0 := ip_pos (B := 2) (by decide) p
  have h1 : (2147483648 : Int) ^ (p / 31 + 1) = 2 ^ (31 * (p / 31 + 1)) := by rw [show (2147483648 : Int) = 2 ^ 31 by decide, ← Int.pow_mul]
  have h2 := ip_le (B := 2) (by decide) (show p + 1 ≤ 31 * (p / 31 + 1) by omega)
  rw [Int.pow_succ] at h2
  omega
set_option maxHeartbeats 4000000 in
set_option maxRecDepth 100000 in
theorem c_Be_valueAt (l : Launch) (K : pw_K) {L : q_L} (σ : q_S) {b p x N wP n z ex u v c : Nat} {X : Int} {P : Nat → Int} (hbL : vbL L b) (hpL : pL L p N wP) (hx : ptL L x) (hz : z = 0 ∨ (z = 1 ∧ n = 0)) (hnN : n < N) (hdp : p + 2 + 2 * N ≤ b ∨ b + 7 ≤ p) (hdx : x + 3 ≤ b ∨ b + 7 ≤ x) (hdeg : σ p 1 = (n : Int) - z) (hP : ∀ k, k ≤ n → nV σ (p + 2 + 2 * k) wP (P k)) (hX : nV σ (x + 1) 48 X) (hex : σ x 1 = ex) (hexr : ex < 100000) (hXb : (X.natAbs : Int) < 2147483648 ^ v) (hPb : ∀ k, k ≤ n → ((P k).natAbs : Int) < 2147483648 ^ c) (hH : ∀ i, i ≤ n → ((hv P n X ex i).natAbs : Int) < 2147483648 ^ u) (huv : u + v ≤ 159) (hcw : c + ex * n / 31 + 1 ≤ 159) : q_C l K L y_Be_valueAt b_Be_valueAt 7 (some (.object "SturmDesk$Num")) 3 [.ref b, .ref p, .ref x] σ (fun r σ' => (∃ na, r = some (.ref na) ∧ (na = b + 1 ∨ na = b + 3) ∧ nV σ' na 160 (hv P n X ex (n + 1 - z))) ∧ ∀ q, (q ≤ b ∨ b + 7 ≤ q) → σ' q = σ q) := by
  obtain ⟨⟨fs, hb0⟩, h1, h2, hT⟩ := hbL
  obtain ⟨hp0, ⟨g, hg1, hg2⟩, hpn, hN⟩ := hpL
  have hHX : ∀ i, i ≤ n → ((hv P n X ex i * X).natAbs : Int) < 2147483648 ^ (160 - 1) := fun i hi => by
    have := mul_lt_pow (hH i hi) hXb
    have := ip_le (B := 2147483648) (by decide) (show u + v ≤ 160 - 1 by omega)
    omega
  have hTb : ∀ i, i ≤ n → ((P (n - i) * 2 ^ (ex * i)).natAbs : Int) < 2147483648 ^ (160 - 1) := fun i hi => by
    have h3 := Nat.div_le_div_right (c := 31) (Nat.mul_le_mul_left ex hi)
    have h4 : ((2 ^ (ex * i) : Int).natAbs : Int) < 2147483648 ^ (ex * i / 31 + 1) := pow2_lt (ex * i)
    have := mul_lt_pow (hPb (n - i) (by omega)) h4
    have := ip_le (B := 2147483648) (by decide) (show c + (ex * i / 31 + 1) ≤ 160 - 1 by omega)
    omega
  refine q_start [some (.ref b), some (.ref p), some (.ref x), none, none, none, none] (by decide) (Nat.le_of_ble_eq_true rfl) (fun q h => h) ?_
  have loop : ∀ (d i : Nat), i + d = n + 1 - z → ∀ (σ1 : q_S) (na nb : Nat), ((na = b + 1 ∧ nb = b + 3) ∨ (na = b + 3 ∧ nb = b + 1)) → nV σ1 na 160 (hv P n X ex i) → (∀ q, (q ≤ b ∨ b + 7 ≤ q) → σ1 q = σ q) → ∀ t : Int, t = (n : Int) - z - i →  q_T l K L R_Be b_Be_valueAt 7 (some (.object "SturmDesk$Num")) 3 (fun r σ' => (∃ na, r = some (.ref na) ∧ (na = b + 1 ∨ na = b + 3) ∧ nV σ' na 160 (hv P n X ex (n + 1 - z))) ∧ ∀ q, (q ≤ b ∨ b + 7 ≤ q) → σ' q = σ q) 21 [some (.ref b), some (.ref p), some (.ref x), some (.ref na), some (.ref nb), some (vi t), none] [] σ1 := by
    intro d
    induction d with
    | zero =>
      intro i hi σ1 na nb hab f1 f2 t ht
      refine q_iload d_Be_valueAt_21 rfl ?_
      refine q_if_lt (tgt := 95) (by omega) d_Be_valueAt_23 (by decide) (fun c23 => ?_) (fun c23 => absurd c23 (by omega))
      refine q_aload_n d_Be_valueAt_95 rfl ?_
      exact q_aret rfl (⟨⟨na, rfl, hab.imp And.left And.left, by rw [show n + 1 - z = i by omega]; exact f1⟩, f2⟩) d_Be_valueAt_96
    | succ d ih =>
      intro i hi σ1 na nb hab f1 f2 t ht
      refine q_iload d_Be_valueAt_21 rfl ?_
      refine q_if_lt (tgt := 95) (by omega) d_Be_valueAt_23 (by decide) (fun c23 => absurd c23 (by omega)) (fun c23 => ?_)
      have hna : nL L na 160 := by rcases hab with ⟨h, -⟩ | ⟨h, -⟩ <;> rw [h] <;> assumption
      have hnb : nL L nb 160 := by rcases hab with ⟨-, h⟩ | ⟨-, h⟩ <;> rw [h] <;> assumption
      have hk : n - i < N := by omega
      have hc := hP (n - i) (by omega)
      have dP : p + 2 + 2 * (n - i) + 1 < b ∨ b + 7 ≤ p + 2 + 2 * (n - i) := by omega
      have hna : nL L na 160 := by rcases hab with ⟨h, -⟩ | ⟨h, -⟩ <;> rw [h] <;> assumption
      have hnb : nL L nb 160 := by rcases hab with ⟨-, h⟩ | ⟨-, h⟩ <;> rw [h] <;> assumption
      have hk : n - i < N := by omega
      have hc := hP (n - i) (by omega)
      have dP : p + 2 + 2 * (n - i) + 1 < b ∨ b + 7 ≤ p + 2 + 2 * (n - i) := by omega
      refine q_aload d_Be_valueAt_26 rfl ?_
      refine q_aload_n d_Be_valueAt_28 rfl ?_
      refine q_aload_n d_Be_valueAt_29 rfl ?_
      refine q_gr hx.1 pc_Pt 0 (by decide) w_fl_Be_88 rfl (by rfl) d_Be_valueAt_30 ?_
      refine q_callV (As := [.ref na, .ref (x + 1)]) (c_Nu_setProduct l K (u := u) (v := v) hnb hna hx.2 (by omega) (by omega) f1 (hX.mv (f2 _ (by omega)) (f2 _ (by omega))) (hH i (by omega)) hXb (by omega)) w_cd_Nu_setProduct w_ini_Nu w_ml_Be_91 w_im_Nu_setProduct w_se_Nu_setProduct hnb.1.1 rfl hd_Nu_setProduct rfl (Nat.le_of_ble_eq_true rfl) d_Be_valueAt_33 (by decide) (by decide) (fun v σ2 hp => ?_)
      obtain ⟨rfl, k1, k2⟩ := hp
      refine q_aload_n d_Be_valueAt_36 rfl ?_
      refine q_gr hb0 pc_Be 2 (by decide) w_fl_Be_23 rfl (by rfl) d_Be_valueAt_37 ?_
      refine q_aload_n d_Be_valueAt_40 rfl ?_
      refine q_gr hp0 pc_Py 0 (by decide) w_fl_Be_95 rfl (by rfl) d_Be_valueAt_41 ?_
      refine q_iload d_Be_valueAt_44 rfl ?_
      refine q_aal (n - i) 4 (b := p + 2 + 2 * (n - i)) rfl hg1 (by omega) (by omega) (by omega) (hg2 _ hk) d_Be_valueAt_46 ?_
      refine q_callV (As := [.ref (p + 2 + 2 * (n - i))]) (c_Nu_copy l K hT (hpn (n - i) hk) (by omega) (hc.mv (by rw [k2 _ (by omega) (by omega)]; exact f2 _ (by omega)) (by rw [k2 _ (by omega) (by omega)]; exact f2 _ (by omega))) (by have := ip_le (B := 2147483648) (by decide) (show c ≤ 160 by omega); have := hPb (n - i) (by omega); omega)) w_cd_Nu_copy w_ini_Nu w_ml_Be_99 w_im_Nu_copy w_se_Nu_copy hT.1.1 rfl hd_Nu_copy rfl (Nat.le_of_ble_eq_true rfl) d_Be_valueAt_47 (by decide) (by decide) (fun v σ3 hp => ?_)
      obtain ⟨rfl, k3, k4⟩ := hp
      refine q_aload_n d_Be_valueAt_50 rfl ?_
      refine q_gr hb0 pc_Be 2 (by decide) w_fl_Be_23 rfl (by rfl) d_Be_valueAt_51 ?_
      refine q_aload_n d_Be_valueAt_54 rfl ?_
      refine q_gi hx.1 pc_Pt 1 (by decide) w_fl_Be_103 rfl (by rfl) d_Be_valueAt_55 ?_
      refine q_topi (show _ = (ex : Int) by rw [k4 _ (by omega) (by omega), k2 _ (by omega) (by omega), f2 _ (by omega)]; exact hex) ?_
      refine q_aload_n d_Be_valueAt_58 rfl ?_
      refine q_gi hp0 pc_Py 1 (by decide) w_fl_Be_84 rfl (by rfl) d_Be_valueAt_59 ?_
      refine q_topi (show _ = (n : Int) - z by rw [k4 _ (by omega) (by omega), k2 _ (by omega) (by omega), f2 _ (by omega)]; exact hdeg) ?_
      refine q_iload d_Be_valueAt_62 rfl ?_
      refine q_isub d_Be_valueAt_64 ?_
      refine q_imul d_Be_valueAt_65 ?_
      refine q_topi (show _ = ((ex * i : Nat) : Int) by rw [ht, show (n : Int) - z - (n - z - i) = i by omega]; simp) ?_
      refine q_callV (As := [vi ((ex * i : Nat) : Int)]) (c_Nu_shiftUp l K (u := c) (p := ex * i) hT k3 (hPb (n - i) (by omega)) (by have := Nat.div_le_div_right (c := 31) (Nat.mul_le_mul_left ex (show i ≤ n by omega)); omega)) w_cd_Nu_shiftUp w_ini_Nu w_ml_Be_106 w_im_Nu_shiftUp w_se_Nu_shiftUp hT.1.1 rfl hd_Nu_shiftUp rfl (Nat.le_of_ble_eq_true rfl) d_Be_valueAt_66 (by decide) (by decide) (fun v σ4 hp => ?_)
      obtain ⟨rfl, k5, k6⟩ := hp
      refine q_aload d_Be_valueAt_69 rfl ?_
      refine q_aload_n d_Be_valueAt_71 rfl ?_
      refine q_gr hb0 pc_Be 2 (by decide) w_fl_Be_23 rfl (by rfl) d_Be_valueAt_72 ?_
      refine q_iconst d_Be_valueAt_75 rfl ?_
      refine q_callV (As := [.ref (b + 5), vi 1]) (c_Nu_add l K hnb hT (by omega) (k1.mv (by rw [k6 _ (by omega) (by omega), k4 _ (by omega) (by omega)]) (by rw [k6 _ (by omega) (by omega), k4 _ (by omega) (by omega)])) k5 (Or.inl rfl) (hHX i (by omega)) (hTb i (by omega))) w_cd_Nu_add w_ini_Nu w_ml_Be_110 w_im_Nu_add w_se_Nu_add hnb.1.1 rfl hd_Nu_add rfl (Nat.le_of_ble_eq_true rfl) d_Be_valueAt_76 (by decide) (by decide) (fun v σ5 hp => ?_)
      obtain ⟨rfl, k7, k8⟩ := hp
      refine q_aload_n d_Be_valueAt_79 rfl ?_
      refine q_ast_6 d_Be_valueAt_80 (by decide) rfl ?_
      refine q_aload d_Be_valueAt_82 rfl ?_
      refine q_ast_n_3 d_Be_valueAt_84 (by decide) rfl ?_
      refine q_aload d_Be_valueAt_85 rfl ?_
      refine q_ast_4 d_Be_valueAt_87 (by decide) rfl ?_
      refine q_iinc_5 d_Be_valueAt_89 (by decide) rfl ?_
      refine q_goto (tgt := 21) d_Be_valueAt_92 (by decide) ?_
      refine q_drop_6 ?_
      refine ih (i + 1) (by omega) σ5 nb na (by omega) (by rw [show hv P n X ex (i + 1) = hv P n X ex i * X + 1 * (P (n - i) * 2 ^ (ex * i)) by rw [Int.one_mul]; rfl]; exact k7) (fun q hq => ?_) _ (by omega)
      rw [k8 q (by omega) (by omega), k6 q (by omega) (by omega), k4 q (by omega) (by omega), k2 q (by omega) (by omega)]
      exact f2 q hq
  refine q_aload_n d_Be_valueAt_0 rfl ?_
  refine q_gr hb0 pc_Be 0 (by decide) w_fl_Be_14 rfl (by rfl) d_Be_valueAt_1 ?_
  refine q_ast_n_3 d_Be_valueAt_4 (by decide) rfl ?_
  refine q_aload_n d_Be_valueAt_5 rfl ?_
  refine q_gr hb0 pc_Be 1 (by decide) w_fl_Be_20 rfl (by rfl) d_Be_valueAt_6 ?_
  refine q_ast_4 d_Be_valueAt_9 (by decide) rfl ?_
  refine q_aload_n d_Be_valueAt_11 rfl ?_
  refine q_callV (As := []) (c_Nu_clear l K h1 σ) w_cd_Nu_clear w_ini_Nu w_ml_Be_81 w_im_Nu_clear w_se_Nu_clear h1.1.1 rfl hd_Nu_clear rfl (Nat.le_of_ble_eq_true rfl) d_Be_valueAt_12 (by decide) (by decide) (fun v σ1 hp => ?_)
  obtain ⟨rfl, rfl⟩ := hp
  refine q_aload_n d_Be_valueAt_15 rfl ?_
  refine q_gi hp0 pc_Py 1 (by decide) w_fl_Be_84 rfl (by rfl) d_Be_valueAt_16 ?_
  refine q_topi (show _ = (n : Int) - z by rw [q_fr2 (by omega)]; exact hdeg) ?_
  refine q_ist_5 d_Be_valueAt_19 (by decide) rfl ?_
  exact loop (n + 1 - z) 0 (by omega) _ (b + 1) (b + 3) (Or.inl ⟨rfl, rfl⟩) (nV_clear _ _ _) (fun q hq => q_fr2 (by omega)) _ (by omega)
