/-! DIVIDER: reduceToCommon -/
theorem gc_step {u v d : Nat} (hv : 0 < v) (h : (v ≤ u ∧ u * v < 2 ^ d) ∨ (u < v ∧ 1 ≤ d ∧ u * v < 2 ^ (d - 1))) : 1 ≤ d ∧ ((u % v ≤ v ∧ v * (u % v) < 2 ^ (d - 1)) ∨ (v < u % v ∧ 1 ≤ d - 1 ∧ v * (u % v) < 2 ^ (d - 1 - 1))) := by
  have hr := Nat.mod_lt u hv
  rcases h with ⟨h1, h2⟩ | ⟨h1, h2, h3⟩
  · have hd : 1 ≤ d := by
      rcases Nat.eq_zero_or_pos d with g | g
      · exfalso
        subst g
        have := Nat.mul_le_mul (show 1 ≤ u by omega) hv
        omega
      · exact g
    refine ⟨hd, Or.inl ⟨Nat.le_of_lt hr, ?_⟩⟩
    obtain ⟨e, rfl⟩ : ∃ e, d = e + 1 := ⟨d - 1, by omega⟩
    rw [Nat.add_sub_cancel]
    rw [Nat.pow_succ] at h2
    have h4 := Nat.div_add_mod u v
    have h5 : v * 1 ≤ v * (u / v) := Nat.mul_le_mul_left v (Nat.div_pos h1 hv)
    have h6 : v * (u % v * 2) ≤ v * u := Nat.mul_le_mul_left v (by omega)
    have h7 : v * (u % v * 2) = v * (u % v) * 2 := (Nat.mul_assoc _ _ _).symm
    have h8 := Nat.mul_comm u v
    omega
  · refine ⟨h2, Or.inl ⟨Nat.le_of_lt hr, ?_⟩⟩
    rw [Nat.mod_eq_of_lt h1, Nat.mul_comm]
    exact h3
theorem gc_gcd (u v : Nat) : Nat.gcd v (u % v) = Nat.gcd u v := by rw [Nat.gcd_comm v, ← Nat.gcd_rec, Nat.gcd_comm]
theorem tm_abs (u v : Int) : (u.tmod v).natAbs = u.natAbs % v.natAbs := Int.natAbs_tmod u v
theorem nV_abs {σ : q_S} {a w : Nat} {z : Int} (h : nV σ a w z) : nV (q_up σ a 2 (z.sign.natAbs : Int)) a w (z.natAbs : Int) := by
  obtain ⟨n, ⟨h1, h2, h3, h4, h5⟩, ht⟩ := h
  refine ⟨n, ⟨by rw [q_up_ne _ _ (by omega)]; exact h1, ?_, h3, by rw [q_up_a _ _ (by omega)]; exact h4, by rw [q_up_a _ _ (by omega), h5]; omega⟩, by rw [q_up_a _ _ (by omega)]; exact ht⟩
  rw [q_up_self]
  have g1 := sg3 z
  have g2 := sg3 (z.natAbs : Int)
  omega
set_option maxHeartbeats 4000000 in
set_option maxRecDepth 100000 in
theorem c_Di_reduceToCommon (l : Launch) (K : pw_K) {L : q_L} {σ : q_S} {a b c wa wb w0 : Nat} {x y : Int} (hL : diL L c) (hLa : nL L a wa) (hLb : nL L b wb) (hda : a + 1 < c ∨ c + 8 < a) (hdb : b + 1 < c ∨ c + 8 < b) (ha : nV σ a wa x) (hb : nV σ b wb y) (hw0 : w0 ≤ 158) (hwa : w0 ≤ wa) (hx : (x.natAbs : Int) < 2147483648 ^ w0) (hy : (y.natAbs : Int) < 2147483648 ^ w0) : q_C l K L y_Di_reduceToCommon b_Di_reduceToCommon 4 none 4 [.ref c, .ref a, .ref b] σ (fun v σ' => v = none ∧ nV σ' a wa (Nat.gcd x.natAbs y.natAbs : Int) ∧ ∀ q, q ≠ a → q ≠ a + 1 → (q ≤ c ∨ c + 8 < q) → σ' q = σ q) := by
  have hL0 := hL
  obtain ⟨hc0, hn1, hn3, hn5, hn7⟩ := hL0
  obtain ⟨hq0, hq1⟩ := hn1.1
  obtain ⟨hr0, hr1⟩ := hn3.1
  obtain ⟨hs0, hs1⟩ := hn7.1
  obtain ⟨hA0, hA1⟩ := hLa.1
  obtain ⟨hB0, hB1⟩ := hLb.1
  have hda' : a + 1 < c ∨ c + 6 < a := by omega
  refine q_start [some (.ref c), some (.ref a), some (.ref b), none] (by decide) (Nat.le_of_ble_eq_true rfl) (fun q h => h) ?_
  have loop : ∀ (d : Nat) (σ1 : q_S) (u v : Int), (v.natAbs ≤ u.natAbs ∧ u.natAbs * v.natAbs < 2 ^ d) ∨ (u.natAbs < v.natAbs ∧ 1 ≤ d ∧ u.natAbs * v.natAbs < 2 ^ (d - 1)) → nV σ1 a wa u → nV σ1 (c + 7) 160 v → Nat.gcd u.natAbs v.natAbs = Nat.gcd x.natAbs y.natAbs → (u.natAbs : Int) < 2147483648 ^ w0 → (v.natAbs : Int) < 2147483648 ^ w0 → (∀ q, q ≠ a → q ≠ a + 1 → (q ≤ c ∨ c + 8 < q) → σ1 q = σ q) → ∀ t : Int, 0 ≤ t → t + d < 100000 →  q_T l K L R_Di b_Di_reduceToCommon 4 none 4 (fun v σ' => v = none ∧ nV σ' a wa (Nat.gcd x.natAbs y.natAbs : Int) ∧ ∀ q, q ≠ a → q ≠ a + 1 → (q ≤ c ∨ c + 8 < q) → σ' q = σ q) 10 [some (.ref c), some (.ref a), some (.ref b), some (vi t)] [] σ1 := by
    intro d
    induction d with
    | zero =>
      intro σ1 u v f1 f2 f3 f4 f5 f6 f7 t ht0 ht
      have hvz : v = 0 := by
        rcases f1 with ⟨h1, h2⟩ | ⟨h1, h2, h3⟩
        · rcases Nat.eq_zero_or_pos v.natAbs with g | g
          · omega
          · exfalso
            have := Nat.mul_le_mul (show 1 ≤ u.natAbs by omega) g
            omega
        · omega
      refine q_iload_n d_Di_reduceToCommon_10 rfl ?_
      refine q_ldc (z := 100000) w_k_Di_84 (by decide) d_Di_reduceToCommon_11 ?_
      refine q_icmp_ge (tgt := 60) (by omega) (by omega) d_Di_reduceToCommon_13 (by decide) (fun c13 => absurd c13 (by omega)) (fun c13 => ?_)
      refine q_aload_n d_Di_reduceToCommon_16 rfl ?_
      refine q_gr (by assumption) pc_Di 3 (by decide) w_fl_Di_24 rfl (by rfl) d_Di_reduceToCommon_17 ?_
      refine q_gi (by assumption) pc_Nu 2 (by decide) w_fl_Di_50 rfl (by rfl) d_Di_reduceToCommon_20 ?_
      refine q_topi f3.sgn ?_
      refine q_if_eq (tgt := 60) (by have := sg3 v; omega) d_Di_reduceToCommon_23 (by decide) (fun cz => ?_) (fun cz => ?_)
      · refine q_aload_n d_Di_reduceToCommon_60 rfl ?_
        refine q_aload_n d_Di_reduceToCommon_61 rfl ?_
        refine q_gi (by assumption) pc_Nu 2 (by decide) w_fl_Di_50 rfl (by rfl) d_Di_reduceToCommon_62 ?_
        refine q_topi f2.sgn ?_
        refine q_mabs (by have := sg3 u; omega) w_ml_Di_89 d_Di_reduceToCommon_65 (by decide) (Nat.le_of_ble_eq_true rfl) ?_
        refine q_pi (by assumption) pc_Nu 2 (by decide) w_fl_Di_50 rfl rfl rfl rfl (by rfl) d_Di_reduceToCommon_68 ?_
        exact q_vret rfl (⟨rfl, by
          have hz : v = 0 := sg0 cz
          rw [hz] at f4
          rw [← f4]
          simp only [Int.natAbs_zero, Nat.gcd_zero_right]
          exact nV_abs f2, fun q h6 h7 h8 => by rw [q_up_a _ _ h6]; exact f7 q h6 h7 h8⟩) d_Di_reduceToCommon_71
      · exact absurd (by rw [hvz]; rfl) cz
    | succ d ih =>
      intro σ1 u v f1 f2 f3 f4 f5 f6 f7 t ht0 ht
      have hda := hda'
      refine q_iload_n d_Di_reduceToCommon_10 rfl ?_
      refine q_ldc (z := 100000) w_k_Di_84 (by decide) d_Di_reduceToCommon_11 ?_
      refine q_icmp_ge (tgt := 60) (by omega) (by omega) d_Di_reduceToCommon_13 (by decide) (fun c13 => absurd c13 (by omega)) (fun c13 => ?_)
      refine q_aload_n d_Di_reduceToCommon_16 rfl ?_
      refine q_gr (by assumption) pc_Di 3 (by decide) w_fl_Di_24 rfl (by rfl) d_Di_reduceToCommon_17 ?_
      refine q_gi (by assumption) pc_Nu 2 (by decide) w_fl_Di_50 rfl (by rfl) d_Di_reduceToCommon_20 ?_
      refine q_topi f3.sgn ?_
      refine q_if_eq (tgt := 60) (by have := sg3 v; omega) d_Di_reduceToCommon_23 (by decide) (fun cz => ?_) (fun cz => ?_)
      · refine q_aload_n d_Di_reduceToCommon_60 rfl ?_
        refine q_aload_n d_Di_reduceToCommon_61 rfl ?_
        refine q_gi (by assumption) pc_Nu 2 (by decide) w_fl_Di_50 rfl (by rfl) d_Di_reduceToCommon_62 ?_
        refine q_topi f2.sgn ?_
        refine q_mabs (by have := sg3 u; omega) w_ml_Di_89 d_Di_reduceToCommon_65 (by decide) (Nat.le_of_ble_eq_true rfl) ?_
        refine q_pi (by assumption) pc_Nu 2 (by decide) w_fl_Di_50 rfl rfl rfl rfl (by rfl) d_Di_reduceToCommon_68 ?_
        exact q_vret rfl (⟨rfl, by
          have hz : v = 0 := sg0 cz
          rw [hz] at f4
          rw [← f4]
          simp only [Int.natAbs_zero, Nat.gcd_zero_right]
          exact nV_abs f2, fun q h6 h7 h8 => by rw [q_up_a _ _ h6]; exact f7 q h6 h7 h8⟩) d_Di_reduceToCommon_71
      · have hv0 : v ≠ 0 := fun h => cz (by rw [h]; rfl)
        obtain ⟨hd1, hnx⟩ := gc_step (show 0 < v.natAbs by omega) f1
        have hw := ip_le (B := 2147483648) (by decide) hw0
        refine q_aload_n d_Di_reduceToCommon_26 rfl ?_
        refine q_aload_n d_Di_reduceToCommon_27 rfl ?_
        refine q_aload_n d_Di_reduceToCommon_28 rfl ?_
        refine q_gr (by assumption) pc_Di 3 (by decide) w_fl_Di_24 rfl (by rfl) d_Di_reduceToCommon_29 ?_
        refine q_callV (As := [.ref a, .ref (c + 7)]) (c_Di_divide l K hL hLa hn7 hda (by omega) f2 f3 hv0 (by omega) (by omega)) w_cd_Di_divide w_ini_Di w_ml_Di_85 w_im_Di_divide w_se_Di_divide (by assumption) rfl hd_Di_divide rfl (Nat.le_of_ble_eq_true rfl) d_Di_reduceToCommon_32 (by decide) (by decide) (fun v σ2 hp => ?_)
        obtain ⟨rfl, k1, k2, k3⟩ := hp
        refine q_aload_n d_Di_reduceToCommon_35 rfl ?_
        refine q_aload_n d_Di_reduceToCommon_36 rfl ?_
        refine q_gr (by assumption) pc_Di 3 (by decide) w_fl_Di_24 rfl (by rfl) d_Di_reduceToCommon_37 ?_
        refine q_callV (As := [.ref (c + 7)]) (c_Nu_copy l K hLa hn7 (by omega) (f3.mv (k3 _ (by omega)) (k3 _ (by omega))) (by have := ip_le (B := 2147483648) (by decide) hwa; omega)) w_cd_Nu_copy w_ini_Nu w_ml_Di_34 w_im_Nu_copy w_se_Nu_copy (by assumption) rfl hd_Nu_copy rfl (Nat.le_of_ble_eq_true rfl) d_Di_reduceToCommon_40 (by decide) (by decide) (fun v σ3 hp => ?_)
        obtain ⟨rfl, k4, k5⟩ := hp
        have hta := tm_abs u v
        have htl := Nat.mod_lt u.natAbs (show 0 < v.natAbs by omega)
        refine q_aload_n d_Di_reduceToCommon_43 rfl ?_
        refine q_gr (by assumption) pc_Di 3 (by decide) w_fl_Di_24 rfl (by rfl) d_Di_reduceToCommon_44 ?_
        refine q_aload_n d_Di_reduceToCommon_47 rfl ?_
        refine q_gr (by assumption) pc_Di 1 (by decide) w_fl_Di_18 rfl (by rfl) d_Di_reduceToCommon_48 ?_
        refine q_callV (As := [.ref (c + 3)]) (c_Nu_copy l K hn7 hn3 (by omega) (k2.mv (k5 _ (by omega) (by omega)) (k5 _ (by omega) (by omega))) (by have := ip_le (B := 2147483648) (by decide) (show 158 ≤ 160 by omega); omega)) w_cd_Nu_copy w_ini_Nu w_ml_Di_34 w_im_Nu_copy w_se_Nu_copy (by assumption) rfl hd_Nu_copy rfl (Nat.le_of_ble_eq_true rfl) d_Di_reduceToCommon_51 (by decide) (by decide) (fun v σ4 hp => ?_)
        obtain ⟨rfl, k6, k7⟩ := hp
        refine q_iinc_3 d_Di_reduceToCommon_54 (by decide) rfl ?_
        refine q_goto (tgt := 10) d_Di_reduceToCommon_57 (by decide) ?_
        exact ih _ _ _ (by rw [hta]; exact hnx) (k4.mv (k7 _ (by omega) (by omega)) (k7 _ (by omega) (by omega))) k6 (by rw [hta, gc_gcd]; exact f4) f6 (by rw [hta]; omega) (fun q h6 h7 h8 => by rw [k7 q (by omega) (by omega), k5 q h6 h7, k3 q (by omega)]; exact f7 q h6 h7 h8) _ (by omega) (by omega)
  refine q_aload_n d_Di_reduceToCommon_0 rfl ?_
  refine q_gr (by assumption) pc_Di 3 (by decide) w_fl_Di_24 rfl (by rfl) d_Di_reduceToCommon_1 ?_
  refine q_aload_n d_Di_reduceToCommon_4 rfl ?_
  refine q_callV (As := [.ref b]) (c_Nu_copy l K hn7 hLb (by omega) hb (by have := ip_le (B := 2147483648) (by decide) (show w0 ≤ 160 by omega); omega)) w_cd_Nu_copy w_ini_Nu w_ml_Di_34 w_im_Nu_copy w_se_Nu_copy (by assumption) rfl hd_Nu_copy rfl (Nat.le_of_ble_eq_true rfl) d_Di_reduceToCommon_5 (by decide) (by decide) (fun v σ1 hp => ?_)
  obtain ⟨rfl, k1, k2⟩ := hp
  refine q_iconst d_Di_reduceToCommon_8 rfl ?_
  refine q_ist_n_3 d_Di_reduceToCommon_9 (by decide) rfl ?_
  have hbd : x.natAbs * y.natAbs < 2 ^ 9796 := by
    have h1 := ip_le (B := 2147483648) (by decide) hw0
    have h2 := mul_lt_pow (Int.lt_of_lt_of_le hx h1) (Int.lt_of_lt_of_le hy h1)
    rw [Int.natAbs_mul, B_pow] at h2
    have h3 : ((2 ^ 9796 : Nat) : Int) = 2 ^ (31 * (158 + 158)) := by rw [Int.natCast_pow]; rfl
    rw [← h3] at h2
    exact Int.ofNat_lt.mp h2
  exact loop 9797 σ1 x y (by
    rcases Nat.lt_or_ge x.natAbs y.natAbs with g | g
    · exact Or.inr ⟨g, by omega, hbd⟩
    · exact Or.inl ⟨g, Nat.lt_of_lt_of_le hbd (Nat.pow_le_pow_right (by decide) (by decide))⟩) (ha.mv (k2 _ (by omega) (by omega)) (k2 _ (by omega) (by omega))) k1 rfl hx hy (fun q h6 h7 h8 => k2 q (by omega) (by omega)) _ (by omega) (by omega)
