/-! NUM: setProduct -/
set_option maxHeartbeats 4000000 in
set_option maxRecDepth 100000 in
theorem c_Nu_setProduct (l : Launch) (K : pw_K) {L : q_L} {σ : q_S} {r a b wr wa wb u v : Nat} {x y : Int} (hLr : nL L r wr) (hLa : nL L a wa) (hLb : nL L b wb) (hda : r + 1 < a ∨ a + 1 < r) (hdb : r + 1 < b ∨ b + 1 < r) (ha : nV σ a wa x) (hb : nV σ b wb y) (hx : (x.natAbs : Int) < 2147483648 ^ u) (hy : (y.natAbs : Int) < 2147483648 ^ v) (huv : u + v ≤ wr) : q_C l K L y_Nu_setProduct b_Nu_setProduct 11 none 2 [.ref r, .ref a, .ref b] σ (fun v σ' => v = none ∧ nV σ' r wr (x * y) ∧ ∀ q, q ≠ r → q ≠ r + 1 → σ' q = σ q) := by
  have hw := hLr.2
  have hwa := hLa.2
  have hwb := hLb.2
  obtain ⟨hR0, hR1⟩ := hLr.1
  obtain ⟨hA0, hA1⟩ := hLa.1
  obtain ⟨hB0, hB1⟩ := hLb.1
  obtain ⟨n, hu, ht⟩ := ha
  obtain ⟨n', hu', gt⟩ := hb
  have hn := (hu.le ht).mpr hx
  have hn' := (hu'.le gt).mpr hy
  have hh := hu
  have hg := hu'
  obtain ⟨h1, h2, h3, h4, h5⟩ := hh
  obtain ⟨g1, g2, g3, g4, g5⟩ := hg
  refine q_start [some (.ref r), some (.ref a), some (.ref b), none, none, none, none, none, none, none, none] (by decide) (Nat.le_of_ble_eq_true rfl) (fun q h => h) ?_
  have outer : ∀ (d i : Nat), i + d = n → ∀ (σ1 : q_S), σ1 r 1 = (n : Int) + n' → (∀ q, q ≠ r → q ≠ r + 1 → σ1 q = σ q) → (∀ j, j < n + n' → 0 ≤ σ1 (r + 1) j ∧ σ1 (r + 1) j < 2147483648) → (∀ j, i + n' ≤ j → j < n + n' → σ1 (r + 1) j = 0) → dv 2147483648 (σ1 (r + 1)) (i + n') = dv 2147483648 (σ (a + 1)) i * dv 2147483648 (σ (b + 1)) n' →  ∀ ti : Int, ti = i → q_T l K L R_Nu b_Nu_setProduct 11 none 2 (fun v σ' => v = none ∧ nV σ' r wr (x * y) ∧ ∀ q, q ≠ r → q ≠ r + 1 → σ' q = σ q) 64 [some (.ref r), some (.ref a), some (.ref b), some (vi ti), none, none, none, none, none, none, none] [] σ1 := by
    intro d
    induction d with
    | zero =>
      intro i hi σ1 o1 o2 o3 o4 o5 ti hti
      have ea : ∀ k, σ1 a k = σ a k := fun k => by rw [o2 a (by omega) (by omega)]
      have eb : ∀ k, σ1 b k = σ b k := fun k => by rw [o2 b (by omega) (by omega)]
      refine q_iload_n d_Nu_setProduct_64 rfl ?_
      refine q_aload_n d_Nu_setProduct_65 rfl ?_
      refine q_gi (by assumption) pc_Nu 1 (by decide) w_fl_Nu_13 rfl (by rfl) d_Nu_setProduct_66 ?_
      refine q_topi (show _ = (n : Int) by rw [ea]; exact h1) ?_
      refine q_icmp_ge (tgt := 172) (by omega) (by omega) d_Nu_setProduct_69 (by decide) (fun c69 => ?_) (fun c69 => absurd c69 (by omega))
      refine q_aload_n d_Nu_setProduct_172 rfl ?_
      refine q_aload_n d_Nu_setProduct_173 rfl ?_
      refine q_gi (by assumption) pc_Nu 2 (by decide) w_fl_Nu_17 rfl (by rfl) d_Nu_setProduct_174 ?_
      refine q_aload_n d_Nu_setProduct_177 rfl ?_
      refine q_gi (by assumption) pc_Nu 2 (by decide) w_fl_Nu_17 rfl (by rfl) d_Nu_setProduct_178 ?_
      refine q_imul d_Nu_setProduct_181 ?_
      refine q_topi (show _ = (x * y).sign by rw [ea, eb, h2, g2, Int.sign_mul]) ?_
      refine q_pi (by assumption) pc_Nu 2 (by decide) w_fl_Nu_17 rfl rfl rfl rfl (by rfl) d_Nu_setProduct_182 ?_
      refine q_aload_n d_Nu_setProduct_185 rfl ?_
      obtain rfl : i = n := by omega
      have hU : nU (q_up σ1 r 2 (x * y).sign) r wr (i + n') ((x * y).natAbs) (x * y).sign := ⟨by rw [q_up_ne _ _ (by omega), o1]; omega, q_up_self _ _ _ _, by omega, by rw [q_up_a _ _ (by omega)]; exact o3, by rw [q_up_a _ _ (by omega), o5, h5, g5, Int.natAbs_mul]; omega⟩
      refine q_callV (As := []) (c_Nu_trim l K hLr hU) w_cd_Nu_trim w_ini_Nu w_ml_Nu_64 w_im_Nu_trim w_se_Nu_trim hLr.1.1 rfl hd_Nu_trim rfl (Nat.le_of_ble_eq_true rfl) d_Nu_setProduct_186 (by decide) (by decide) (fun v σ3 hp => ?_)
      obtain ⟨rfl, ⟨n3, k1, k2⟩, k3⟩ := hp
      exact q_vret rfl (⟨rfl, k1.val k2 rfl (fun _ => rfl), fun q h6 h7 => by rw [k3 q h6, q_up_a _ _ h6]; exact o2 q h6 h7⟩) d_Nu_setProduct_189
    | succ d ihO =>
      intro i hi σ1 o1 o2 o3 o4 o5 ti hti
      have ea : ∀ k, σ1 a k = σ a k := fun k => by rw [o2 a (by omega) (by omega)]
      have ihO := ihO (i + 1) (by omega)
      have inner : ∀ (d j : Nat), j + d = n' → ∀ (σ2 : q_S) (c : Int), σ2 r = σ1 r → (∀ q, q ≠ r → q ≠ r + 1 → σ2 q = σ q) → (∀ j, j < n + n' → 0 ≤ σ2 (r + 1) j ∧ σ2 (r + 1) j < 2147483648) → (∀ t, (t < i ∨ i + j ≤ t) → σ2 (r + 1) t = σ1 (r + 1) t) → dv 2147483648 (fun t => σ2 (r + 1) (i + t)) j + c * 2147483648 ^ j = dv 2147483648 (fun t => σ1 (r + 1) (i + t)) j + σ (a + 1) i * dv 2147483648 (σ (b + 1)) j → (0 ≤ c ∧ c < 2147483648) → ∀ tj : Int, tj = j →  q_T l K L R_Nu b_Nu_setProduct 11 none 2 (fun v σ' => v = none ∧ nV σ' r wr (x * y) ∧ ∀ q, q ≠ r → q ≠ r + 1 → σ' q = σ q) 87 [some (.ref r), some (.ref a), some (.ref b), some (vi ti), some (vl (σ (a + 1) i)), none, some (vl c), none, some (vi tj), none, none] [] σ2 := by
        intro d
        induction d with
        | zero =>
          intro j hj σ2 c e1 e2 e3 e4 e5 e6 tj htj
          refine q_iload d_Nu_setProduct_87 rfl ?_
          refine q_aload_n d_Nu_setProduct_89 rfl ?_
          refine q_gi (by assumption) pc_Nu 1 (by decide) w_fl_Nu_13 rfl (by rfl) d_Nu_setProduct_90 ?_
          refine q_topi (show _ = (n' : Int) by rw [e2 b (by omega) (by omega)]; exact g1) ?_
          refine q_icmp_ge (tgt := 152) (by omega) (by omega) d_Nu_setProduct_93 (by decide) (fun c93 => ?_) (fun c93 => absurd c93 (by omega))
          obtain rfl : j = n' := by omega
          refine q_aload_n d_Nu_setProduct_152 rfl ?_
          refine q_gr (by assumption) pc_Nu 0 (by decide) w_fl_Nu_9 rfl (by rfl) d_Nu_setProduct_153 ?_
          refine q_iload_n d_Nu_setProduct_156 rfl ?_
          refine q_aload_n d_Nu_setProduct_157 rfl ?_
          refine q_gi (by assumption) pc_Nu 1 (by decide) w_fl_Nu_13 rfl (by rfl) d_Nu_setProduct_158 ?_
          refine q_topi (show _ = (j : Int) by rw [e2 b (by omega) (by omega)]; exact g1) ?_
          refine q_iadd d_Nu_setProduct_161 ?_
          refine q_lload d_Nu_setProduct_162 rfl ?_
          refine q_l2i d_Nu_setProduct_164 ?_
          refine q_ias (i + j) (by assumption) (by omega) (by omega) (by omega) d_Nu_setProduct_165 ?_
          refine q_iinc_3 d_Nu_setProduct_166 (by decide) rfl ?_
          refine q_goto (tgt := 64) d_Nu_setProduct_169 (by decide) ?_
          refine q_drop_4 (q_drop_6 (q_drop_8 ?_))
          have hrow : ∀ t, t ≠ i + j → q_up σ2 (r + 1) (i + j) c (r + 1) t = σ2 (r + 1) t := fun t ht => q_up_k _ _ ht
          exact ihO _ (by rw [q_up_a _ _ (by omega), e1]; exact o1) (fun q h6 h7 => by rw [q_up_a _ _ h7]; exact e2 q h6 h7) (fun t ht => if e : t = i + j then by subst e; rw [q_up_self]; omega else by rw [hrow t e]; exact e3 t ht) (fun t h6 h7 => by rw [hrow t (by omega), e4 t (by omega)]; exact o4 t (by omega) h7) (by
            rw [show i + 1 + j = i + (j + 1) by omega, dv_split, dv_congr (h := σ1 (r + 1)) (n := i) (fun t ht => by rw [hrow t (by omega)]; exact e4 t (by omega)), dv_s, dv_congr (h := fun t => σ2 (r + 1) (i + t)) (n := j) (fun t ht => hrow _ (by omega)), q_up_self, e5, dv_s, Int.add_mul, ← o5, dv_split 2147483648 (σ1 (r + 1)) i j]
            grind) _ (by omega)
        | succ d ih =>
          intro j hj σ2 c e1 e2 e3 e4 e5 e6 tj htj
          refine q_iload d_Nu_setProduct_87 rfl ?_
          refine q_aload_n d_Nu_setProduct_89 rfl ?_
          refine q_gi (by assumption) pc_Nu 1 (by decide) w_fl_Nu_13 rfl (by rfl) d_Nu_setProduct_90 ?_
          refine q_topi (show _ = (n' : Int) by rw [e2 b (by omega) (by omega)]; exact g1) ?_
          refine q_icmp_ge (tgt := 152) (by omega) (by omega) d_Nu_setProduct_93 (by decide) (fun c93 => absurd c93 (by omega)) (fun c93 => ?_)
          have r1 := h4 i (by omega)
          have r2 := g4 j (by omega)
          have r3 := e3 (i + j) (by omega)
          have r4 := mul_carry (by decide) r1 r2 r3 e6
          have r1 := h4 i (by omega)
          have r2 := g4 j (by omega)
          have r3 := e3 (i + j) (by omega)
          have r4 := mul_carry (by decide) r1 r2 r3 e6
          refine q_lload d_Nu_setProduct_96 rfl ?_
          refine q_aload_n d_Nu_setProduct_98 rfl ?_
          refine q_gr (by assumption) pc_Nu 0 (by decide) w_fl_Nu_9 rfl (by rfl) d_Nu_setProduct_99 ?_
          refine q_iload d_Nu_setProduct_102 rfl ?_
          refine q_ial (j) (by assumption) (by omega) (by omega) (by omega) d_Nu_setProduct_104 ?_
          refine q_topi (show _ = σ (b + 1) j by rw [e2 (b + 1) (by omega) (by omega)]) ?_
          refine q_i2l (by omega) d_Nu_setProduct_105 ?_
          refine q_lmul d_Nu_setProduct_106 ?_
          refine q_aload_n d_Nu_setProduct_107 rfl ?_
          refine q_gr (by assumption) pc_Nu 0 (by decide) w_fl_Nu_9 rfl (by rfl) d_Nu_setProduct_108 ?_
          refine q_iload_n d_Nu_setProduct_111 rfl ?_
          refine q_iload d_Nu_setProduct_112 rfl ?_
          refine q_iadd d_Nu_setProduct_114 ?_
          refine q_ial (i + j) (by assumption) (by omega) (by omega) (by omega) d_Nu_setProduct_115 ?_
          refine q_i2l (by omega) d_Nu_setProduct_116 ?_
          refine q_ladd d_Nu_setProduct_117 ?_
          refine q_lload d_Nu_setProduct_118 rfl ?_
          refine q_ladd d_Nu_setProduct_120 ?_
          refine q_lst_9 d_Nu_setProduct_121 (by decide) rfl ?_
          refine q_aload_n d_Nu_setProduct_123 rfl ?_
          refine q_gr (by assumption) pc_Nu 0 (by decide) w_fl_Nu_9 rfl (by rfl) d_Nu_setProduct_124 ?_
          refine q_iload_n d_Nu_setProduct_127 rfl ?_
          refine q_iload d_Nu_setProduct_128 rfl ?_
          refine q_iadd d_Nu_setProduct_130 ?_
          refine q_lload d_Nu_setProduct_131 rfl ?_
          refine q_ldc2 (z := 2147483647) w_kl_Nu_26 (by decide) d_Nu_setProduct_133 ?_
          refine q_land (z := (σ (a + 1) i * σ (b + 1) j + σ2 (r + 1) (i + j) + c) % 2147483648) (q_land31 _) d_Nu_setProduct_136 ?_
          refine q_l2i d_Nu_setProduct_137 ?_
          refine q_ias (i + j) (by assumption) (by omega) (by omega) (by omega) d_Nu_setProduct_138 ?_
          refine q_lload d_Nu_setProduct_139 rfl ?_
          refine q_bipush d_Nu_setProduct_141 (by decide) ?_
          refine q_lushr (z := (σ (a + 1) i * σ (b + 1) j + σ2 (r + 1) (i + j) + c) / 2147483648) (q_lushr31 (by omega)) d_Nu_setProduct_143 ?_
          refine q_lst_6 d_Nu_setProduct_144 (by decide) rfl ?_
          refine q_iinc_8 d_Nu_setProduct_146 (by decide) rfl ?_
          refine q_goto (tgt := 87) d_Nu_setProduct_149 (by decide) ?_
          refine q_drop_9 ?_
          have hrow : ∀ t, t ≠ i + j → q_up σ2 (r + 1) (i + j) ((σ (a + 1) i * σ (b + 1) j + σ2 (r + 1) (i + j) + c) % 2147483648) (r + 1) t = σ2 (r + 1) t := fun t ht => q_up_k _ _ ht
          exact ih (j + 1) (by omega) _ _ (by rw [q_up_a _ _ (by omega)]; exact e1) (fun q h6 h7 => by rw [q_up_a _ _ h7]; exact e2 q h6 h7) (fun t ht => if e : t = i + j then by subst e; rw [q_up_self]; omega else by rw [hrow t e]; exact e3 t ht) (fun t h6 => by rw [hrow t (by omega)]; exact e4 t (by omega)) (by
            rw [dv_step (g := fun t => σ2 (r + 1) (i + t)) (s := σ (a + 1) i * σ (b + 1) j + σ2 (r + 1) (i + j)) e5 (fun t ht => hrow _ (by omega)) (by rw [q_up_self]; omega), dv_s, dv_s, e4 (i + j) (by omega)]
            grind) (by omega) _ (by omega)
      refine q_iload_n d_Nu_setProduct_64 rfl ?_
      refine q_aload_n d_Nu_setProduct_65 rfl ?_
      refine q_gi (by assumption) pc_Nu 1 (by decide) w_fl_Nu_13 rfl (by rfl) d_Nu_setProduct_66 ?_
      refine q_topi (show _ = (n : Int) by rw [ea]; exact h1) ?_
      refine q_icmp_ge (tgt := 172) (by omega) (by omega) d_Nu_setProduct_69 (by decide) (fun c69 => absurd c69 (by omega)) (fun c69 => ?_)
      refine q_aload_n d_Nu_setProduct_72 rfl ?_
      refine q_gr (by assumption) pc_Nu 0 (by decide) w_fl_Nu_9 rfl (by rfl) d_Nu_setProduct_73 ?_
      refine q_iload_n d_Nu_setProduct_76 rfl ?_
      refine q_ial (i) (by assumption) (by omega) (by omega) (by omega) d_Nu_setProduct_77 ?_
      refine q_topi (show _ = σ (a + 1) i by rw [o2 (a + 1) (by omega) (by omega)]) ?_
      refine q_i2l (by have := h4 i (by omega); omega) d_Nu_setProduct_78 ?_
      refine q_lst_4 d_Nu_setProduct_79 (by decide) rfl ?_
      refine q_lconst (z := 0) d_Nu_setProduct_81 (by decide) ?_
      refine q_lst_6 d_Nu_setProduct_82 (by decide) rfl ?_
      refine q_iconst d_Nu_setProduct_84 rfl ?_
      refine q_ist_8 d_Nu_setProduct_85 (by decide) rfl ?_
      exact inner n' 0 (by omega) σ1 0 rfl o2 o3 (fun t _ => rfl) (by simp [dv]) (by omega) _ rfl
  refine q_aload_n d_Nu_setProduct_0 rfl ?_
  refine q_gi (by assumption) pc_Nu 1 (by decide) w_fl_Nu_13 rfl (by rfl) d_Nu_setProduct_1 ?_
  refine q_if_eq (tgt := 31) (by omega) d_Nu_setProduct_4 (by decide) (fun ca => ?_) (fun ca => ?_)
  · have hxy : x * y = 0 := by rw [show x = 0 by have := (hu.zero ht).mp (by omega); omega]; simp
    refine q_aload_n d_Nu_setProduct_31 rfl ?_
    refine q_callV (As := []) (c_Nu_clear l K hLr σ) w_cd_Nu_clear w_ini_Nu w_ml_Nu_51 w_im_Nu_clear w_se_Nu_clear hLr.1.1 rfl hd_Nu_clear rfl (Nat.le_of_ble_eq_true rfl) d_Nu_setProduct_32 (by decide) (by decide) (fun v σ1 hp => ?_)
    obtain ⟨rfl, rfl⟩ := hp
    exact q_vret rfl (⟨rfl, by rw [hxy]; exact nV_clear _ _ _, fun q h6 h7 => q_fr2 h6⟩) d_Nu_setProduct_35
  · refine q_aload_n d_Nu_setProduct_7 rfl ?_
    refine q_gi (by assumption) pc_Nu 1 (by decide) w_fl_Nu_13 rfl (by rfl) d_Nu_setProduct_8 ?_
    refine q_if_eq (tgt := 31) (by omega) d_Nu_setProduct_11 (by decide) (fun cb => ?_) (fun cb => ?_)
    · have hxy : x * y = 0 := by rw [show y = 0 by have := (hu'.zero gt).mp (by omega); omega]; simp
      refine q_aload_n d_Nu_setProduct_31 rfl ?_
      refine q_callV (As := []) (c_Nu_clear l K hLr σ) w_cd_Nu_clear w_ini_Nu w_ml_Nu_51 w_im_Nu_clear w_se_Nu_clear hLr.1.1 rfl hd_Nu_clear rfl (Nat.le_of_ble_eq_true rfl) d_Nu_setProduct_32 (by decide) (by decide) (fun v σ1 hp => ?_)
      obtain ⟨rfl, rfl⟩ := hp
      exact q_vret rfl (⟨rfl, by rw [hxy]; exact nV_clear _ _ _, fun q h6 h7 => q_fr2 h6⟩) d_Nu_setProduct_35
    · refine q_aload_n d_Nu_setProduct_14 rfl ?_
      refine q_gi (by assumption) pc_Nu 1 (by decide) w_fl_Nu_13 rfl (by rfl) d_Nu_setProduct_15 ?_
      refine q_aload_n d_Nu_setProduct_18 rfl ?_
      refine q_gi (by assumption) pc_Nu 1 (by decide) w_fl_Nu_13 rfl (by rfl) d_Nu_setProduct_19 ?_
      refine q_iadd d_Nu_setProduct_22 ?_
      refine q_aload_n d_Nu_setProduct_23 rfl ?_
      refine q_gr (by assumption) pc_Nu 0 (by decide) w_fl_Nu_9 rfl (by rfl) d_Nu_setProduct_24 ?_
      refine q_len 0 rfl (by assumption) d_Nu_setProduct_27 ?_
      refine q_icmp_le (tgt := 36) (by omega) (by omega) d_Nu_setProduct_28 (by decide) (fun c28 => ?_) (fun c28 => absurd c28 (by omega))
      refine q_aload_n d_Nu_setProduct_36 rfl ?_
      refine q_aload_n d_Nu_setProduct_37 rfl ?_
      refine q_gi (by assumption) pc_Nu 1 (by decide) w_fl_Nu_13 rfl (by rfl) d_Nu_setProduct_38 ?_
      refine q_aload_n d_Nu_setProduct_41 rfl ?_
      refine q_gi (by assumption) pc_Nu 1 (by decide) w_fl_Nu_13 rfl (by rfl) d_Nu_setProduct_42 ?_
      refine q_iadd d_Nu_setProduct_45 ?_
      refine q_pi (by assumption) pc_Nu 1 (by decide) w_fl_Nu_13 rfl rfl rfl rfl (by rfl) d_Nu_setProduct_46 ?_
      refine q_aload_n d_Nu_setProduct_49 rfl ?_
      refine q_gr (by assumption) pc_Nu 0 (by decide) w_fl_Nu_9 rfl (by rfl) d_Nu_setProduct_50 ?_
      refine q_iconst d_Nu_setProduct_53 rfl ?_
      refine q_aload_n d_Nu_setProduct_54 rfl ?_
      refine q_gi (by assumption) pc_Nu 1 (by decide) w_fl_Nu_13 rfl (by rfl) d_Nu_setProduct_55 ?_
      refine q_topi (show _ = ((n + n' : Nat) : Int) by rw [q_up_self]; omega) ?_
      refine q_iconst d_Nu_setProduct_58 rfl ?_
      refine q_callS (As := [.ref (r + 1), vi ((0 : Nat) : Int), vi ((n + n' : Nat) : Int), vi 0]) (c_Ar_fill l K (L := L) (n := wr) _ (i := 0) (j := n + n') 0 hLr.1.2 (by omega) (by omega) (by omega)) w_cd_Ar_fill w_ini_Ar w_ml_Nu_83 w_st_Ar_fill hd_Ar_fill rfl (Nat.le_of_ble_eq_true rfl) d_Nu_setProduct_59 (by decide) (by decide) (fun v σ1 hp => ?_)
      obtain ⟨rfl, rfl⟩ := hp
      refine q_iconst d_Nu_setProduct_62 rfl ?_
      refine q_ist_n_3 d_Nu_setProduct_63 (by decide) rfl ?_
      exact outer n 0 (by omega) _ (by rw [q_fill_a _ _ (by omega), q_up_self]; omega) (fun q h6 h7 => by rw [q_fill_a _ _ h7, q_up_a _ _ h6]) (fun j hj => by rw [q_fill_in _ _ (by omega)]; omega) (fun j _ hj => q_fill_in _ _ (by omega)) (by rw [dv_zero (fun k hk => q_fill_in _ _ (by omega))]; simp [dv]) _ rfl
