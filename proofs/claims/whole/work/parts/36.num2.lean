/-! NUM: copy, addMagnitude, subtractMagnitude, add -/
theorem q_land31 (x : Int) : Int64.ofInt x &&& Int64.ofInt 2147483647 = Int64.ofInt (x % 2147483648) := by
  apply Int64.toBitVec_inj.mp
  rw [Int64.toBitVec_and, Int64.toBitVec_ofInt, Int64.toBitVec_ofInt, Int64.toBitVec_ofInt]
  apply BitVec.eq_of_toNat_eq
  rw [BitVec.toNat_and, BitVec.toNat_ofInt, BitVec.toNat_ofInt, BitVec.toNat_ofInt, show ((2147483647 : Int) % ((2 ^ 64 : Nat) : Int)).toNat = 2 ^ 31 - 1 by decide, Nat.and_two_pow_sub_one_eq_mod]
  omega
theorem q_iand31 (x : Int) : Int32.ofInt x &&& Int32.ofInt 2147483647 = Int32.ofInt (x % 2147483648) := by
  apply Int32.toBitVec_inj.mp
  rw [Int32.toBitVec_and, Int32.toBitVec_ofInt, Int32.toBitVec_ofInt, Int32.toBitVec_ofInt]
  apply BitVec.eq_of_toNat_eq
  rw [BitVec.toNat_and, BitVec.toNat_ofInt, BitVec.toNat_ofInt, BitVec.toNat_ofInt, show ((2147483647 : Int) % ((2 ^ 32 : Nat) : Int)).toNat = 2 ^ 31 - 1 by decide, Nat.and_two_pow_sub_one_eq_mod]
  omega
theorem q_lushr31 {x : Int} (h : 0 ≤ x ∧ x < 9223372036854775808) : ((Int64.ofInt x).toUInt64 >>> ((Int32.ofInt 31).toInt64.toUInt64 &&& Int64.toUInt64 63)).toInt64 = Int64.ofInt (x / 2147483648) := by
  obtain ⟨m, rfl⟩ : ∃ m : Nat, x = m := ⟨x.toNat, by omega⟩
  exact u_shr (m := m) (by omega)
theorem dv_topnz {B : Int} (hB : 0 < B) {g : Nat → Int} {n : Nat} (e : ∀ k, k < n + 1 → 0 ≤ g k ∧ g k < B) (h : B ^ n ≤ dv B g (n + 1)) : g n ≠ 0 := by
  intro h0
  have h1 := (dv_range hB (fun k hk => e k (Nat.lt_succ_of_lt hk)) : 0 ≤ dv B g n ∧ dv B g n < B ^ n)
  rw [dv_s, h0] at h
  omega
/-- not shorter than it says, so its top limb isn't 0 -/
theorem nU.top {σ : q_S} {a w n : Nat} {m s : Int} (h : nU σ a w n m s) (hm : 0 < n → 2147483648 ^ (n - 1) ≤ m) : 0 < n → σ (a + 1) (n - 1) ≠ 0 := by
  intro h0
  obtain ⟨j, rfl⟩ : ∃ j, n = j + 1 := ⟨n - 1, by omega⟩
  obtain ⟨-, -, -, hd, he⟩ := h
  exact dv_topnz (n := j) (by decide) hd (by rw [he]; exact hm h0)
theorem nU.low {σ : q_S} {a w n : Nat} {m s : Int} (h : nU σ a w n m s) (ht : 0 < n → σ (a + 1) (n - 1) ≠ 0) : 0 < n → 2147483648 ^ (n - 1) ≤ m := by
  intro h0
  obtain ⟨j, rfl⟩ : ∃ j, n = j + 1 := ⟨n - 1, by omega⟩
  obtain ⟨-, -, -, hd, he⟩ := h
  rw [← he]
  exact dv_top (by decide) hd (ht h0)
/-- limb k, 0 above the top -/
def pd (g : Nat → Int) (n k : Nat) : Int := if k < n then g k else 0
theorem pd_r {g : Nat → Int} {n : Nat} (h : ∀ k, k < n → 0 ≤ g k ∧ g k < 2147483648) (k : Nat) : 0 ≤ pd g n k ∧ pd g n k < 2147483648 := by
  unfold pd
  split
  · rename_i hk; exact h k hk
  · omega
theorem dv_pd {B : Int} {g : Nat → Int} {n m : Nat} (h : n ≤ m) : dv B (pd g n) m = dv B g n := by
  rw [dv_pad (g := pd g n) h (fun k h1 _ => if_neg (by omega))]
  exact dv_congr (fun k hk => if_pos hk)
set_option maxHeartbeats 4000000 in
set_option maxRecDepth 100000 in
theorem c_Nu_copy (l : Launch) (K : pw_K) {L : q_L} {σ : q_S} {a b wa wb : Nat} {y : Int} (hLa : nL L a wa) (hLb : nL L b wb) (hd : a + 1 < b ∨ b + 1 < a) (hb : nV σ b wb y) (hy : (y.natAbs : Int) < 2147483648 ^ wa) : q_C l K L y_Nu_copy b_Nu_copy 2 none 1 [.ref a, .ref b] σ (fun v σ' => v = none ∧ nV σ' a wa y ∧ ∀ q, q ≠ a → q ≠ a + 1 → σ' q = σ q) := by
  obtain ⟨⟨hA, hB⟩, hw⟩ := hLa
  obtain ⟨⟨hA', hB'⟩, hw'⟩ := hLb
  obtain ⟨n, hu, gt⟩ := hb
  have hn := (hu.le gt).mpr hy
  have hz0 : n = 0 → y = 0 := fun h => by have := (hu.zero gt).mp h; omega
  obtain ⟨g1, g2, g3, g4, g5⟩ := hu
  refine q_start [some (.ref a), some (.ref b)] (by decide) (Nat.le_of_ble_eq_true rfl) (fun q h => h) ?_
  refine q_aload_n d_Nu_copy_0 rfl ?_
  refine q_aload_n d_Nu_copy_1 rfl ?_
  refine q_gi (by assumption) pc_Nu 1 (by decide) w_fl_Nu_13 rfl (by rfl) d_Nu_copy_2 ?_
  refine q_aload_n d_Nu_copy_5 rfl ?_
  refine q_gr (by assumption) pc_Nu 0 (by decide) w_fl_Nu_9 rfl (by rfl) d_Nu_copy_6 ?_
  refine q_len 0 rfl (by assumption) d_Nu_copy_9 ?_
  refine q_icmp_gt (tgt := 20) (by omega) (by omega) d_Nu_copy_10 (by decide) (fun c10 => absurd c10 (by omega)) (fun c10 => ?_)
  refine q_aload_n d_Nu_copy_13 rfl ?_
  refine q_gi (by assumption) pc_Nu 1 (by decide) w_fl_Nu_13 rfl (by rfl) d_Nu_copy_14 ?_
  refine q_goto (tgt := 21) d_Nu_copy_17 (by decide) ?_
  refine q_pi (by assumption) pc_Nu 1 (by decide) w_fl_Nu_13 rfl rfl rfl rfl (by rfl) d_Nu_copy_21 ?_
  refine q_aload_n d_Nu_copy_24 rfl ?_
  refine q_aload_n d_Nu_copy_25 rfl ?_
  refine q_gi (by assumption) pc_Nu 1 (by decide) w_fl_Nu_13 rfl (by rfl) d_Nu_copy_26 ?_
  refine q_topi (q_up_self _ _ _ _) ?_
  refine q_jn1 (V := σ b 2) 40 (fun jn => ?_) ?_
  · refine q_if_ne (tgt := 36) (by omega) d_Nu_copy_29 (by decide) (fun c29 => ?_) (fun c29 => ?_)
    · refine q_aload_n d_Nu_copy_36 rfl ?_
      refine q_gi (by assumption) pc_Nu 2 (by decide) w_fl_Nu_17 rfl (by rfl) d_Nu_copy_37 ?_
      exact jn _ (q_up_ne _ _ (by omega))
    · refine q_iconst d_Nu_copy_32 rfl ?_
      refine q_goto (tgt := 40) d_Nu_copy_33 (by decide) ?_
      exact jn _ (by rw [g2]; rw [hz0 (by omega)]; rfl)
  · refine q_pi (by assumption) pc_Nu 2 (by decide) w_fl_Nu_17 rfl rfl rfl rfl (by rfl) d_Nu_copy_40 ?_
    refine q_aload_n d_Nu_copy_43 rfl ?_
    refine q_gr (by assumption) pc_Nu 0 (by decide) w_fl_Nu_9 rfl (by rfl) d_Nu_copy_44 ?_
    refine q_iconst d_Nu_copy_47 rfl ?_
    refine q_aload_n d_Nu_copy_48 rfl ?_
    refine q_gr (by assumption) pc_Nu 0 (by decide) w_fl_Nu_9 rfl (by rfl) d_Nu_copy_49 ?_
    refine q_iconst d_Nu_copy_52 rfl ?_
    refine q_aload_n d_Nu_copy_53 rfl ?_
    refine q_gi (by assumption) pc_Nu 1 (by decide) w_fl_Nu_13 rfl (by rfl) d_Nu_copy_54 ?_
    refine q_copy (n) (by assumption) (by assumption) (by rw [q_up_ne _ _ (by omega), q_up_self]; exact g1) (by omega) (by omega) (by omega) w_ml_Nu_20 d_Nu_copy_57 (by decide) (Nat.le_of_ble_eq_true rfl) ?_
    exact q_vret rfl (⟨rfl, ⟨n, ⟨by rw [q_cp_a _ (by omega), q_up_ne _ _ (by omega), q_up_self]; exact g1, by rw [q_cp_a _ (by omega), q_up_self]; exact g2, by omega, fun k hk => by rw [q_cp_in _ hk, q_fr2 (by omega)]; exact g4 k hk, by rw [← g5]; exact dv_congr (fun k hk => by rw [q_cp_in _ hk, q_fr2 (by omega)])⟩, fun h0 => by rw [q_cp_in _ (by omega), q_fr2 (by omega)]; exact gt h0⟩, fun q h1 h2 => by rw [q_cp_a _ h2, q_fr2 h1]⟩) d_Nu_copy_60
set_option maxHeartbeats 4000000 in
set_option maxRecDepth 100000 in
theorem c_Nu_addMagnitude (l : Launch) (K : pw_K) {L : q_L} {σ : q_S} {a b wa wb : Nat} {x y : Int} (hLa : nL L a wa) (hLb : nL L b wb) (hd : a + 1 < b ∨ b + 1 < a) (ha : nV σ a wa x) (hb : nV σ b wb y) (hx0 : x ≠ 0) (hx : (x.natAbs : Int) < 2147483648 ^ (wa - 1)) (hy : (y.natAbs : Int) < 2147483648 ^ (wa - 1)) : q_C l K L y_Nu_addMagnitude b_Nu_addMagnitude 7 none 1 [.ref a, .ref b] σ (fun v σ' => v = none ∧ nV σ' a wa (x.sign * (x.natAbs + y.natAbs)) ∧ ∀ q, q ≠ a → q ≠ a + 1 → σ' q = σ q) := by
  have hw0 : 0 < wa := by
    rcases Nat.eq_zero_or_pos wa with h | h
    · subst h; have : (x.natAbs : Int) < 1 := by simpa using hx
      omega
    · exact h
  obtain ⟨⟨hA, hB⟩, hw⟩ := hLa
  obtain ⟨⟨hA', hB'⟩, hw'⟩ := hLb
  obtain ⟨n, hu, ht⟩ := ha
  obtain ⟨n', hu', gt⟩ := hb
  have hn := (hu.le ht).mpr hx
  have hn' := (hu'.le gt).mpr hy
  have hlo := hu.low ht
  have hlo' := hu'.low gt
  have hnz : 0 < n := Nat.pos_of_ne_zero (fun h => hx0 (by have := (hu.zero ht).mp h; omega))
  obtain ⟨h1, h2, h3, h4, h5⟩ := hu
  obtain ⟨g1, g2, g3, g4, g5⟩ := hu'
  have hxa := Int.sign_mul_natAbs x
  refine q_start [some (.ref a), some (.ref b), none, none, none, none, none] (by decide) (Nat.le_of_ble_eq_true rfl) (fun q h => h) ?_
  have hfin : ∀ (k : Nat), k = max n n' → ∀ (σ1 : q_S) (c : Int), σ1 a = σ a → (∀ j, k ≤ j → σ1 (a + 1) j = σ (a + 1) j) → (∀ q, q ≠ a → q ≠ a + 1 → σ1 q = σ q) → (∀ j, j < k → 0 ≤ σ1 (a + 1) j ∧ σ1 (a + 1) j < 2147483648) → dv 2147483648 (σ1 (a + 1)) k + c * 2147483648 ^ k = dv 2147483648 (pd (σ (a + 1)) n) k + dv 2147483648 (pd (σ (b + 1)) n') k → (0 ≤ c ∧ c ≤ 1) → ∀ t : Int, t = k →  q_T l K L R_Nu b_Nu_addMagnitude 7 none 1 (fun v σ' => v = none ∧ nV σ' a wa (x.sign * (x.natAbs + y.natAbs)) ∧ ∀ q, q ≠ a → q ≠ a + 1 → σ' q = σ q) 112 [some (.ref a), some (.ref b), some (vi (max (n : Int) n')), some (vi c), some (vi t), none, none] [] σ1 := by
    intro k hk σ1 c hf1 hf2 hf3 hf4 hI hc t ht
    subst hk
    rw [dv_pd (by omega), dv_pd (by omega), h5, g5] at hI
    have hsg : x.sign * (x.natAbs + y.natAbs) ≠ 0 := by have := sg3 x; rcases this with h | h | h <;> (rw [h.2]; omega)
    have hsn : (x.sign * ((x.natAbs : Int) + y.natAbs)).sign = x.sign := by have := sg3 x; rcases this with h | h | h <;> (rw [h.2]; first | exact Int.sign_eq_one_of_pos (by omega) | exact Int.sign_eq_neg_one_of_neg (by omega) | omega)
    have hab : ((x.sign * ((x.natAbs : Int) + y.natAbs)).natAbs : Int) = x.natAbs + y.natAbs := by have := sg3 x; rcases this with h | h | h <;> (rw [h.2]; omega)
    have hend : c = 0 → nV (q_up σ1 a 1 (max (n : Int) n')) a wa (x.sign * (x.natAbs + y.natAbs)) ∧ ∀ q, q ≠ a → q ≠ a + 1 → q_up σ1 a 1 (max (n : Int) n') q = σ q := by
      intro hc0
      subst hc0
      have hU : nU (q_up σ1 a 1 (max (n : Int) n')) a wa (max n n') ((x.sign * ((x.natAbs : Int) + y.natAbs)).natAbs) (x.sign * ((x.natAbs : Int) + y.natAbs)).sign := ⟨by rw [q_up_self]; omega, by rw [q_up_ne _ _ (by omega), hf1, hsn]; exact h2, by omega, fun k hk => by rw [q_up_a _ _ (by omega)]; exact hf4 k hk, by rw [q_up_a _ _ (by omega), hab]; omega⟩
      exact ⟨⟨_, hU, hU.top (fun _ => by
        rw [hab]
        rcases Nat.le_total n' n with h | h
        · rw [Nat.max_eq_left h]; have := hlo hnz; omega
        · rw [Nat.max_eq_right h]; have := hlo' (by omega); omega)⟩, fun q h6 h7 => by rw [q_up_a _ _ h6]; exact hf3 q h6 h7⟩
    have hcar : c ≠ 0 → nV (q_up (q_up (q_up σ1 a 1 (max (n : Int) n')) (a + 1) (max n n') c) a 1 (q_up (q_up σ1 a 1 (max (n : Int) n')) (a + 1) (max n n') c a 1 + 1)) a wa (x.sign * (x.natAbs + y.natAbs)) ∧ ∀ q, q ≠ a → q ≠ a + 1 → q_up (q_up (q_up σ1 a 1 (max (n : Int) n')) (a + 1) (max n n') c) a 1 (q_up (q_up σ1 a 1 (max (n : Int) n')) (a + 1) (max n n') c a 1 + 1) q = σ q := by
      intro hc0
      obtain rfl : c = 1 := by omega
      have hdg : ∀ j, j < max n n' + 1 → 0 ≤ q_up σ1 (a + 1) (max n n') 1 (a + 1) j ∧ q_up σ1 (a + 1) (max n n') 1 (a + 1) j < 2147483648 := fun j hj => if e : j = max n n' then by subst e; rw [q_up_self]; omega else by rw [q_up_k _ _ e]; exact hf4 j (by omega)
      have hrow : ∀ z : Int, q_up (q_up (q_up σ1 a 1 (max (n : Int) n')) (a + 1) (max n n') 1) a 1 z (a + 1) = q_up σ1 (a + 1) (max n n') 1 (a + 1) := fun z => by
        rw [q_up_a _ _ (by omega)]
        funext j
        by_cases e : j = max n n'
        · subst e; rw [q_up_self, q_up_self]
        · rw [q_up_k _ _ e, q_up_k _ _ e, q_up_a _ _ (by omega)]
      refine ⟨⟨max n n' + 1, ⟨by rw [q_up_self, q_up_ne _ _ (by omega), q_up_self]; omega, by rw [q_up_ne _ _ (by omega), q_up_ne _ _ (by omega), q_up_ne _ _ (by omega), hf1, hsn]; exact h2, by omega, ?_, ?_⟩, ?_⟩, fun q h6 h7 => by rw [q_up_a _ _ h6, q_up_a _ _ h7, q_up_a _ _ h6]; exact hf3 q h6 h7⟩
      · rw [hrow]; exact hdg
      · rw [hrow, dv_s, dv_congr (h := σ1 (a + 1)) (fun j hj => q_up_k _ _ (by omega)), q_up_self, hab]; omega
      · intro _; rw [hrow, Nat.add_sub_cancel, q_up_self]; decide
    refine q_aload_n d_Nu_addMagnitude_112 rfl ?_
    refine q_iload_n d_Nu_addMagnitude_113 rfl ?_
    refine q_pi (by assumption) pc_Nu 1 (by decide) w_fl_Nu_13 rfl rfl rfl rfl (by rfl) d_Nu_addMagnitude_114 ?_
    refine q_iload_n d_Nu_addMagnitude_117 rfl ?_
    refine q_if_eq (tgt := 141) (by omega) d_Nu_addMagnitude_118 (by decide) (fun cq => ?_) (fun cq => ?_)
    · exact q_vret rfl (⟨rfl, hend cq⟩) d_Nu_addMagnitude_141
    · refine q_aload_n d_Nu_addMagnitude_121 rfl ?_
      refine q_gr (by assumption) pc_Nu 0 (by decide) w_fl_Nu_9 rfl (by rfl) d_Nu_addMagnitude_122 ?_
      refine q_aload_n d_Nu_addMagnitude_125 rfl ?_
      refine q_gi (by assumption) pc_Nu 1 (by decide) w_fl_Nu_13 rfl (by rfl) d_Nu_addMagnitude_126 ?_
      refine q_iload_n d_Nu_addMagnitude_129 rfl ?_
      refine q_ias (max n n') (by assumption) (by rw [q_up_self]; omega) (by omega) (by omega) d_Nu_addMagnitude_130 ?_
      refine q_aload_n d_Nu_addMagnitude_131 rfl ?_
      refine q_dup d_Nu_addMagnitude_132 rfl ?_
      refine q_gi (by assumption) pc_Nu 1 (by decide) w_fl_Nu_13 rfl (by rfl) d_Nu_addMagnitude_133 ?_
      refine q_iconst d_Nu_addMagnitude_136 rfl ?_
      refine q_iadd d_Nu_addMagnitude_137 ?_
      refine q_pi (by assumption) pc_Nu 1 (by decide) w_fl_Nu_13 rfl rfl rfl rfl (by rfl) d_Nu_addMagnitude_138 ?_
      exact q_vret rfl (⟨rfl, hcar cq⟩) d_Nu_addMagnitude_141
  have loop : ∀ (d k : Nat), k + d = max n n' → ∀ (σ1 : q_S) (c : Int), σ1 a = σ a → (∀ j, k ≤ j → σ1 (a + 1) j = σ (a + 1) j) → (∀ q, q ≠ a → q ≠ a + 1 → σ1 q = σ q) → (∀ j, j < k → 0 ≤ σ1 (a + 1) j ∧ σ1 (a + 1) j < 2147483648) → dv 2147483648 (σ1 (a + 1)) k + c * 2147483648 ^ k = dv 2147483648 (pd (σ (a + 1)) n) k + dv 2147483648 (pd (σ (b + 1)) n') k → (0 ≤ c ∧ c ≤ 1) → ∀ t : Int, t = k →  q_T l K L R_Nu b_Nu_addMagnitude 7 none 1 (fun v σ' => v = none ∧ nV σ' a wa (x.sign * (x.natAbs + y.natAbs)) ∧ ∀ q, q ≠ a → q ≠ a + 1 → σ' q = σ q) 31 [some (.ref a), some (.ref b), some (vi (max (n : Int) n')), some (vi c), some (vi t), none, none] [] σ1 := by
    intro d
    induction d with
    | zero =>
      intro k hk σ1 c hf1 hf2 hf3 hf4 hI hc t ht
      refine q_iload d_Nu_addMagnitude_31 rfl ?_
      refine q_iload_n d_Nu_addMagnitude_33 rfl ?_
      refine q_icmp_ge (tgt := 112) (by omega) (by omega) d_Nu_addMagnitude_34 (by decide) (fun c34 => ?_) (fun c34 => absurd c34 (by omega))
      exact hfin k (by omega) σ1 c hf1 hf2 hf3 hf4 hI hc _ ht
    | succ d ih =>
      intro k hk σ1 c hf1 hf2 hf3 hf4 hI hc t ht
      refine q_iload d_Nu_addMagnitude_31 rfl ?_
      refine q_iload_n d_Nu_addMagnitude_33 rfl ?_
      refine q_icmp_ge (tgt := 112) (by omega) (by omega) d_Nu_addMagnitude_34 (by decide) (fun c34 => absurd c34 (by omega)) (fun c34 => ?_)
      have r1 := pd_r h4 k
      have r2 := pd_r g4 k
      have ea : σ1 a 1 = n := by rw [hf1]; exact h1
      have eb : σ1 b 1 = n' := by rw [hf3 b (by omega) (by omega)]; exact g1
      have r1 := pd_r h4 k
      have r2 := pd_r g4 k
      have ea : σ1 a 1 = n := by rw [hf1]; exact h1
      have eb : σ1 b 1 = n' := by rw [hf3 b (by omega) (by omega)]; exact g1
      refine q_iload_n d_Nu_addMagnitude_37 rfl ?_
      refine q_i2l (by omega) d_Nu_addMagnitude_38 ?_
      refine q_iload d_Nu_addMagnitude_39 rfl ?_
      refine q_aload_n d_Nu_addMagnitude_41 rfl ?_
      refine q_gi (by assumption) pc_Nu 1 (by decide) w_fl_Nu_13 rfl (by rfl) d_Nu_addMagnitude_42 ?_
      refine q_jn2 (V := pd (σ (a + 1)) n k) 59 (fun jn => ?_) ?_
      · refine q_icmp_ge (tgt := 58) (by omega) (by omega) d_Nu_addMagnitude_45 (by decide) (fun ck => ?_) (fun ck => ?_)
        · refine q_iconst d_Nu_addMagnitude_58 rfl ?_
          exact jn _ ((if_neg (by omega)).symm)
        · refine q_aload_n d_Nu_addMagnitude_48 rfl ?_
          refine q_gr (by assumption) pc_Nu 0 (by decide) w_fl_Nu_9 rfl (by rfl) d_Nu_addMagnitude_49 ?_
          refine q_iload d_Nu_addMagnitude_52 rfl ?_
          refine q_ial (k) (by assumption) (by omega) (by omega) (by omega) d_Nu_addMagnitude_54 ?_
          refine q_goto (tgt := 59) d_Nu_addMagnitude_55 (by decide) ?_
          exact jn _ (by rw [hf2 k (Nat.le_refl k)]; exact (if_pos (by omega)).symm)
      · refine q_i2l (by omega) d_Nu_addMagnitude_59 ?_
        refine q_ladd d_Nu_addMagnitude_60 ?_
        refine q_iload d_Nu_addMagnitude_61 rfl ?_
        refine q_aload_n d_Nu_addMagnitude_63 rfl ?_
        refine q_gi (by assumption) pc_Nu 1 (by decide) w_fl_Nu_13 rfl (by rfl) d_Nu_addMagnitude_64 ?_
        refine q_jn2 (V := pd (σ (b + 1)) n' k) 81 (fun jn => ?_) ?_
        · refine q_icmp_ge (tgt := 80) (by omega) (by omega) d_Nu_addMagnitude_67 (by decide) (fun ck => ?_) (fun ck => ?_)
          · refine q_iconst d_Nu_addMagnitude_80 rfl ?_
            exact jn _ ((if_neg (by omega)).symm)
          · refine q_aload_n d_Nu_addMagnitude_70 rfl ?_
            refine q_gr (by assumption) pc_Nu 0 (by decide) w_fl_Nu_9 rfl (by rfl) d_Nu_addMagnitude_71 ?_
            refine q_iload d_Nu_addMagnitude_74 rfl ?_
            refine q_ial (k) (by assumption) (by omega) (by omega) (by omega) d_Nu_addMagnitude_76 ?_
            refine q_goto (tgt := 81) d_Nu_addMagnitude_77 (by decide) ?_
            exact jn _ (by rw [hf3 (b + 1) (by omega) (by omega)]; exact (if_pos (by omega)).symm)
        · refine q_i2l (by omega) d_Nu_addMagnitude_81 ?_
          refine q_ladd d_Nu_addMagnitude_82 ?_
          refine q_lst_5 d_Nu_addMagnitude_83 (by decide) rfl ?_
          refine q_aload_n d_Nu_addMagnitude_85 rfl ?_
          refine q_gr (by assumption) pc_Nu 0 (by decide) w_fl_Nu_9 rfl (by rfl) d_Nu_addMagnitude_86 ?_
          refine q_iload d_Nu_addMagnitude_89 rfl ?_
          refine q_lload d_Nu_addMagnitude_91 rfl ?_
          refine q_ldc2 (z := 2147483647) w_kl_Nu_26 (by decide) d_Nu_addMagnitude_93 ?_
          refine q_land (z := (c + pd (σ (a + 1)) n k + pd (σ (b + 1)) n' k) % 2147483648) (q_land31 _) d_Nu_addMagnitude_96 ?_
          refine q_l2i d_Nu_addMagnitude_97 ?_
          refine q_ias (k) (by assumption) (by omega) (by omega) (by omega) d_Nu_addMagnitude_98 ?_
          refine q_lload d_Nu_addMagnitude_99 rfl ?_
          refine q_bipush d_Nu_addMagnitude_101 (by decide) ?_
          refine q_lushr (z := (c + pd (σ (a + 1)) n k + pd (σ (b + 1)) n' k) / 2147483648) (q_lushr31 (by omega)) d_Nu_addMagnitude_103 ?_
          refine q_l2i d_Nu_addMagnitude_104 ?_
          refine q_ist_n_3 d_Nu_addMagnitude_105 (by decide) rfl ?_
          refine q_iinc_4 d_Nu_addMagnitude_106 (by decide) rfl ?_
          refine q_goto (tgt := 31) d_Nu_addMagnitude_109 (by decide) ?_
          refine q_drop_5 ?_
          exact ih (k + 1) (by omega) _ _ (by rw [q_up_a _ _ (by omega)]; exact hf1) (fun j hj => by rw [q_up_k _ _ (by omega)]; exact hf2 j (by omega)) (fun q h6 h7 => by rw [q_up_a _ _ h7]; exact hf3 q h6 h7) (fun j hj => if e : j = k then by subst e; rw [q_up_self]; omega else by rw [q_up_k _ _ e]; exact hf4 j (by omega)) (by rw [dv_step (s := pd (σ (a + 1)) n k + pd (σ (b + 1)) n' k) hI (fun j hj => q_up_k _ _ (by omega)) (by rw [q_up_self]; omega), dv_s, dv_s]; grind) (by omega) _ (by omega)
  refine q_aload_n d_Nu_addMagnitude_0 rfl ?_
  refine q_gi (by assumption) pc_Nu 1 (by decide) w_fl_Nu_13 rfl (by rfl) d_Nu_addMagnitude_1 ?_
  refine q_aload_n d_Nu_addMagnitude_4 rfl ?_
  refine q_gi (by assumption) pc_Nu 1 (by decide) w_fl_Nu_13 rfl (by rfl) d_Nu_addMagnitude_5 ?_
  refine q_mmax (by omega) (by omega) w_ml_Nu_58 d_Nu_addMagnitude_8 (by decide) (Nat.le_of_ble_eq_true rfl) ?_
  refine q_topi (show _ = max (n : Int) n' by rw [h1, g1]) ?_
  refine q_ist_n_2 d_Nu_addMagnitude_11 (by decide) rfl ?_
  refine q_iload_n d_Nu_addMagnitude_12 rfl ?_
  refine q_aload_n d_Nu_addMagnitude_13 rfl ?_
  refine q_gr (by assumption) pc_Nu 0 (by decide) w_fl_Nu_9 rfl (by rfl) d_Nu_addMagnitude_14 ?_
  refine q_len 0 rfl (by assumption) d_Nu_addMagnitude_17 ?_
  refine q_icmp_lt (tgt := 26) (by omega) (by omega) d_Nu_addMagnitude_18 (by decide) (fun c18 => ?_) (fun c18 => absurd c18 (by omega))
  refine q_iconst d_Nu_addMagnitude_26 rfl ?_
  refine q_ist_n_3 d_Nu_addMagnitude_27 (by decide) rfl ?_
  refine q_iconst d_Nu_addMagnitude_28 rfl ?_
  refine q_ist_4 d_Nu_addMagnitude_29 (by decide) rfl ?_
  exact loop (max n n') 0 (by omega) σ 0 rfl (fun j _ => rfl) (fun q _ _ => rfl) (fun j hj => by omega) rfl (by omega) 0 rfl
