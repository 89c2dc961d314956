/-! HELD: firstLevelApart -/
theorem ediv_bd (z : Int) (k : Nat) : (z / 2 ^ k).natAbs ≤ z.natAbs := by
  have hp := ip_pos (B := 2) (by decide) k
  rcases Int.lt_or_le z 0 with h | h
  · have h1 : z ≤ z / 2 ^ k := Int.le_ediv_of_mul_le hp (by
      have := Int.mul_le_mul_of_nonpos_left (a := z) (b := 2 ^ k) (c := 1) (by omega) (by omega)
      omega)
    have h2 : z / 2 ^ k < 0 := Int.ediv_neg_of_neg_of_pos h hp
    omega
  · have h1 : 0 ≤ z / 2 ^ k := Int.ediv_nonneg h (by omega)
    have h2 : z / 2 ^ k ≤ z := Int.ediv_le_self _ h
    omega
theorem ediv_s (z : Int) (k : Nat) : z / 2 ^ k / 2 ^ 1 = z / 2 ^ (k + 1) := by
  rw [Int.ediv_ediv_of_nonneg (Int.le_of_lt (ip_pos (by decide) k)), ← Int.pow_add]
/-- z, of level la, at level m -/
def atl (z la m : Int) : Int := z / 2 ^ (la - m).toNat
theorem mv_atl {z la lv : Int} (h : lv ≤ la) : (if 0 ≤ lv - la then z * 2 ^ (lv - la).toNat else z / 2 ^ (-(lv - la)).toNat) = atl z la lv := by
  unfold atl
  split
  · rw [show (lv - la).toNat = 0 by omega, show (la - lv).toNat = 0 by omega, Int.pow_zero, Int.mul_one, Int.ediv_one]
  · rw [show -(lv - la) = la - lv by omega]
theorem atl_s {z la m : Int} (h : m ≤ la) : atl z la m / 2 ^ 1 = atl z la (m - 1) := by
  unfold atl
  rw [ediv_s, show (la - (m - 1)).toNat = (la - m).toNat + 1 by omega]
theorem mv_1 (z : Int) : (if (0 : Int) ≤ -1 then z * 2 ^ (-1 : Int).toNat else z / 2 ^ (-(-1) : Int).toNat) = z / 2 ^ 1 := if_neg (by decide)
set_option maxHeartbeats 4000000 in
set_option maxRecDepth 100000 in
theorem c_He_firstLevelApart (l : Launch) (K : pw_K) {L : q_L} {σ : q_S} {a B i : Nat} {za la zb lb : Int} (hL : heL L a) (hbL : beL L B) (hdj : a + 177 ≤ B ∨ B + 91 ≤ a) (hi : i + 1 < 8) (h1 : nV σ (a + 153 + 3 * i + 1) 48 za) (h2 : σ (a + 153 + 3 * i) 1 = la) (h3 : nV σ (a + 153 + 3 * (i + 1) + 1) 48 zb) (h4 : σ (a + 153 + 3 * (i + 1)) 1 = lb) (hla : -32 ≤ la ∧ la ≤ 1000) (hlb : -32 ≤ lb ∧ lb ≤ 1000) (hza : (za.natAbs : Int) < 2147483648 ^ 40) (hzb : (zb.natAbs : Int) < 2147483648 ^ 40) : q_C l K L y_He_firstLevelApart b_He_firstLevelApart 7 (some .int) 5 [.ref a, vi i, .ref B] σ (fun r σ' => (∃ nn : Int, r = some (vi nn) ∧ 0 ≤ nn ∧ (∀ m, nn ≤ m → m ≤ (min la lb) → atl za la m ≠ atl zb lb m) ∧ (0 < nn → nn - 1 ≤ (min la lb) ∧ atl za la (nn - 1) = atl zb lb (nn - 1))) ∧ (∀ q, q ≠ B + 9 → q ≠ B + 10 → q ≠ B + 11 → q ≠ B + 12 → σ' q = σ q)) := by
  obtain ⟨hH0, -, -, hch, ⟨rg, hrg, hrg2⟩, hroA⟩ := hL
  have hrA := hroA i (by omega)
  have hrB := hroA (i + 1) hi
  have hb0 := hbL.1
  have hLo : nL L (B + 9) 160 := hbL.2.1 4 (by decide)
  have hUp : nL L (B + 11) 160 := hbL.2.1 5 (by decide)
  have hA : hid ((za.natAbs : Int) < 2147483648 ^ 40) := hza
  have hB : hid ((zb.natAbs : Int) < 2147483648 ^ 40) := hzb
  clear hza hzb
  have bA : hid (∀ m, ((atl za la m).natAbs : Int) < 2147483648 ^ 40) := fun m => Int.lt_of_le_of_lt (Int.ofNat_le.2 (ediv_bd _ _)) hA
  have bB : hid (∀ m, ((atl zb lb m).natAbs : Int) < 2147483648 ^ 40) := fun m => Int.lt_of_le_of_lt (Int.ofNat_le.2 (ediv_bd _ _)) hB
  refine q_start [some (.ref a), some (vi i), some (.ref B), none, none, none, none] (by decide) (Nat.le_of_ble_eq_true rfl) (fun q h => h) ?_
  have loop : ∀ (f : Nat) (s : Int), s = (f : Int) - 1 → s ≤ (min la lb) → ∀ (σ1 : q_S), nV σ1 (B + 9) 160 (atl za la s) → nV σ1 (B + 11) 160 (atl zb lb s) → hid (∀ m, s < m → m ≤ (min la lb) → atl za la m ≠ atl zb lb m) → (∀ q, q ≠ B + 9 → q ≠ B + 10 → q ≠ B + 11 → q ≠ B + 12 → σ1 q = σ q) → q_T l K L R_He b_He_firstLevelApart 7 (some .int) 5 (fun r σ' => (∃ nn : Int, r = some (vi nn) ∧ 0 ≤ nn ∧ (∀ m, nn ≤ m → m ≤ (min la lb) → atl za la m ≠ atl zb lb m) ∧ (0 < nn → nn - 1 ≤ (min la lb) ∧ atl za la (nn - 1) = atl zb lb (nn - 1))) ∧ (∀ q, q ≠ B + 9 → q ≠ B + 10 → q ≠ B + 11 → q ≠ B + 12 → σ' q = σ q)) 87 [some (.ref a), some (vi i), some (.ref B), some (.ref (a + 153 + 3 * i)), some (.ref (a + 153 + 3 * (i + 1))), some (vi (min la lb)), some (vi s)] [] σ1 := by
    intro f
    induction f with
    | zero =>
      intro s hs hsl σ1 f1 f2 f3 f4
      refine q_iload d_He_firstLevelApart_87 rfl ?_
      refine q_if_lt (tgt := 128) (by omega) d_He_firstLevelApart_89 (by decide) (fun c89 => ?_) (fun c89 => absurd c89 (by omega))
      refine q_iconst d_He_firstLevelApart_128 rfl ?_
      refine q_iload d_He_firstLevelApart_129 rfl ?_
      refine q_iconst d_He_firstLevelApart_131 rfl ?_
      refine q_iadd d_He_firstLevelApart_132 ?_
      refine q_mmax (by omega) (by omega) w_ml_He_80 d_He_firstLevelApart_133 (by decide) (Nat.le_of_ble_eq_true rfl) ?_
      exact q_iret rfl (⟨⟨_, rfl, by omega, fun m g1 g2 => f3 m (by omega) g2, fun g1 => by omega⟩, f4⟩) d_He_firstLevelApart_136
    | succ f ih =>
      intro s hs hsl σ1 f1 f2 f3 f4
      refine q_iload d_He_firstLevelApart_87 rfl ?_
      refine q_if_lt (tgt := 128) (by omega) d_He_firstLevelApart_89 (by decide) (fun c89 => absurd c89 (by omega)) (fun c89 => ?_)
      refine q_aload_n d_He_firstLevelApart_92 rfl ?_
      refine q_gr hb0 pc_Be 4 (by decide) w_fl_He_205 rfl (by rfl) d_He_firstLevelApart_93 ?_
      refine q_aload_n d_He_firstLevelApart_96 rfl ?_
      refine q_gr hb0 pc_Be 5 (by decide) w_fl_He_210 rfl (by rfl) d_He_firstLevelApart_97 ?_
      refine q_callV (As := [.ref (B + 11)]) (c_Nu_same l K hLo hUp f1 f2) w_cd_Nu_same w_ini_Nu w_ml_He_247 w_im_Nu_same w_se_Nu_same hLo.1.1 rfl hd_Nu_same rfl (Nat.le_of_ble_eq_true rfl) d_He_firstLevelApart_100 (by decide) (by decide) (fun v σ2 hp => ?_)
      obtain ⟨rfl, hσ⟩ := hp
      rw [hσ]
      clear hσ σ2
      refine q_if_ne (tgt := 128) (by split <;> omega) d_He_firstLevelApart_103 (by decide) (fun cs => ?_) (fun cs => ?_)
      · refine q_iconst d_He_firstLevelApart_128 rfl ?_
        refine q_iload d_He_firstLevelApart_129 rfl ?_
        refine q_iconst d_He_firstLevelApart_131 rfl ?_
        refine q_iadd d_He_firstLevelApart_132 ?_
        refine q_mmax (by omega) (by omega) w_ml_He_80 d_He_firstLevelApart_133 (by decide) (Nat.le_of_ble_eq_true rfl) ?_
        exact q_iret rfl (⟨⟨_, rfl, by omega, fun m g1 g2 => f3 m (by omega) g2, fun g1 => ⟨by omega, by rw [show max 0 (s + 1) - 1 = s by omega]; by_cases h9 : atl za la s = atl zb lb s; exact h9; rw [if_neg h9] at cs; omega⟩⟩, f4⟩) d_He_firstLevelApart_136
      · refine q_aload_n d_He_firstLevelApart_106 rfl ?_
        refine q_gr hb0 pc_Be 4 (by decide) w_fl_He_205 rfl (by rfl) d_He_firstLevelApart_107 ?_
        refine q_iconst d_He_firstLevelApart_110 rfl ?_
        refine q_callV (As := [vi (-1)]) (c_Nu_move l K (u := 40) hLo f1 (by decide) (bA s) (by decide) (by omega)) w_cd_Nu_move w_ini_Nu w_ml_He_235 w_im_Nu_move w_se_Nu_move hLo.1.1 rfl hd_Nu_move rfl (Nat.le_of_ble_eq_true rfl) d_He_firstLevelApart_111 (by decide) (by decide) (fun v σ2 hp => ?_)
        obtain ⟨rfl, k1, k2⟩ := hp
        rw [mv_1, atl_s (by omega)] at k1
        refine q_aload_n d_He_firstLevelApart_114 rfl ?_
        refine q_gr hb0 pc_Be 5 (by decide) w_fl_He_210 rfl (by rfl) d_He_firstLevelApart_115 ?_
        refine q_iconst d_He_firstLevelApart_118 rfl ?_
        refine q_callV (As := [vi (-1)]) (c_Nu_move l K (u := 40) hUp (f2.mv (k2 _ (by omega) (by omega)) (k2 _ (by omega) (by omega))) (by decide) (bB s) (by decide) (by omega)) w_cd_Nu_move w_ini_Nu w_ml_He_235 w_im_Nu_move w_se_Nu_move hUp.1.1 rfl hd_Nu_move rfl (Nat.le_of_ble_eq_true rfl) d_He_firstLevelApart_119 (by decide) (by decide) (fun v σ3 hp => ?_)
        obtain ⟨rfl, k3, k4⟩ := hp
        rw [mv_1, atl_s (by omega)] at k3
        refine q_iinc_6 d_He_firstLevelApart_122 (by decide) rfl ?_
        refine q_goto (tgt := 87) d_He_firstLevelApart_125 (by decide) ?_
        refine ih (s + -1) (by omega) (by omega) σ3 (k1.mv (k4 _ (by omega) (by omega)) (k4 _ (by omega) (by omega))) k3 (fun m g1 g2 => ?_) (fun q g1 g2 g3 g4 => by rw [k4 q g3 g4, k2 q g1 g2]; exact f4 q g1 g2 g3 g4)
        rcases Int.lt_or_le s m with h9 | h9
        · exact f3 m h9 g2
        · rw [show m = s by omega]
          intro h9
          rw [if_pos h9] at cs
          exact absurd cs (by decide)
  refine q_aload_n d_He_firstLevelApart_0 rfl ?_
  refine q_gr hH0 pc_He 3 (by decide) w_fl_He_35 rfl (by rfl) d_He_firstLevelApart_1 ?_
  refine q_iload_n d_He_firstLevelApart_4 rfl ?_
  refine q_aal (i) 6 (b := a + 153 + 3 * i) rfl hrg (by omega) (by omega) (by omega) (hrg2 _ (by omega)) d_He_firstLevelApart_5 ?_
  refine q_ast_n_3 d_He_firstLevelApart_6 (by decide) rfl ?_
  refine q_aload_n d_He_firstLevelApart_7 rfl ?_
  refine q_gr hH0 pc_He 3 (by decide) w_fl_He_35 rfl (by rfl) d_He_firstLevelApart_8 ?_
  refine q_iload_n d_He_firstLevelApart_11 rfl ?_
  refine q_iconst d_He_firstLevelApart_12 rfl ?_
  refine q_iadd d_He_firstLevelApart_13 ?_
  refine q_topi (show (i : Int) + 1 = ((i + 1 : Nat) : Int) by omega) ?_
  refine q_aal (i + 1) 6 (b := a + 153 + 3 * (i + 1)) rfl hrg (by omega) (by omega) (by omega) (hrg2 _ hi) d_He_firstLevelApart_14 ?_
  refine q_ast_4 d_He_firstLevelApart_15 (by decide) rfl ?_
  refine q_aload_n d_He_firstLevelApart_17 rfl ?_
  refine q_gi hrA.1 pc_Ro 1 (by decide) w_fl_He_156 rfl (by rfl) d_He_firstLevelApart_18 ?_
  refine q_topi h2 ?_
  refine q_aload d_He_firstLevelApart_21 rfl ?_
  refine q_gi hrB.1 pc_Ro 1 (by decide) w_fl_He_156 rfl (by rfl) d_He_firstLevelApart_23 ?_
  refine q_topi h4 ?_
  refine q_mmin (by omega) (by omega) w_ml_He_109 d_He_firstLevelApart_26 (by decide) (Nat.le_of_ble_eq_true rfl) ?_
  refine q_ist_5 d_He_firstLevelApart_29 (by decide) rfl ?_
  refine q_aload_n d_He_firstLevelApart_31 rfl ?_
  refine q_gr hb0 pc_Be 4 (by decide) w_fl_He_205 rfl (by rfl) d_He_firstLevelApart_32 ?_
  refine q_aload_n d_He_firstLevelApart_35 rfl ?_
  refine q_gr hrA.1 pc_Ro 0 (by decide) w_fl_He_150 rfl (by rfl) d_He_firstLevelApart_36 ?_
  refine q_callV (As := [.ref (a + 153 + 3 * i + 1)]) (c_Nu_copy l K hLo hrA.2 (by omega) h1 (lim_up hA (by decide))) w_cd_Nu_copy w_ini_Nu w_ml_He_202 w_im_Nu_copy w_se_Nu_copy hLo.1.1 rfl hd_Nu_copy rfl (Nat.le_of_ble_eq_true rfl) d_He_firstLevelApart_39 (by decide) (by decide) (fun v σ1 hp => ?_)
  obtain ⟨rfl, k1, k2⟩ := hp
  refine q_aload_n d_He_firstLevelApart_42 rfl ?_
  refine q_gr hb0 pc_Be 5 (by decide) w_fl_He_210 rfl (by rfl) d_He_firstLevelApart_43 ?_
  refine q_aload d_He_firstLevelApart_46 rfl ?_
  refine q_gr hrB.1 pc_Ro 0 (by decide) w_fl_He_150 rfl (by rfl) d_He_firstLevelApart_48 ?_
  refine q_callV (As := [.ref (a + 153 + 3 * (i + 1) + 1)]) (c_Nu_copy l K hUp hrB.2 (by omega) (h3.mv (k2 _ (by omega) (by omega)) (k2 _ (by omega) (by omega))) (lim_up hB (by decide))) w_cd_Nu_copy w_ini_Nu w_ml_He_202 w_im_Nu_copy w_se_Nu_copy hUp.1.1 rfl hd_Nu_copy rfl (Nat.le_of_ble_eq_true rfl) d_He_firstLevelApart_51 (by decide) (by decide) (fun v σ2 hp => ?_)
  obtain ⟨rfl, k3, k4⟩ := hp
  refine q_aload_n d_He_firstLevelApart_54 rfl ?_
  refine q_gr hb0 pc_Be 4 (by decide) w_fl_He_205 rfl (by rfl) d_He_firstLevelApart_55 ?_
  refine q_iload d_He_firstLevelApart_58 rfl ?_
  refine q_aload_n d_He_firstLevelApart_60 rfl ?_
  refine q_gi hrA.1 pc_Ro 1 (by decide) w_fl_He_156 rfl (by rfl) d_He_firstLevelApart_61 ?_
  refine q_topi (show _ = la by rw [k4 _ (by omega) (by omega), k2 _ (by omega) (by omega)]; exact h2) ?_
  refine q_isub d_He_firstLevelApart_64 ?_
  refine q_callV (As := [vi ((min la lb) - la)]) (c_Nu_move l K (u := 40) hLo (k1.mv (k4 _ (by omega) (by omega)) (k4 _ (by omega) (by omega))) (by decide) hA (by omega) (by omega)) w_cd_Nu_move w_ini_Nu w_ml_He_235 w_im_Nu_move w_se_Nu_move hLo.1.1 rfl hd_Nu_move rfl (Nat.le_of_ble_eq_true rfl) d_He_firstLevelApart_65 (by decide) (by decide) (fun v σ3 hp => ?_)
  obtain ⟨rfl, k5, k6⟩ := hp
  rw [mv_atl (by omega)] at k5
  refine q_aload_n d_He_firstLevelApart_68 rfl ?_
  refine q_gr hb0 pc_Be 5 (by decide) w_fl_He_210 rfl (by rfl) d_He_firstLevelApart_69 ?_
  refine q_iload d_He_firstLevelApart_72 rfl ?_
  refine q_aload d_He_firstLevelApart_74 rfl ?_
  refine q_gi hrB.1 pc_Ro 1 (by decide) w_fl_He_156 rfl (by rfl) d_He_firstLevelApart_76 ?_
  refine q_topi (show _ = lb by rw [k6 _ (by omega) (by omega), k4 _ (by omega) (by omega), k2 _ (by omega) (by omega)]; exact h4) ?_
  refine q_isub d_He_firstLevelApart_79 ?_
  refine q_callV (As := [vi ((min la lb) - lb)]) (c_Nu_move l K (u := 40) hUp (k3.mv (k6 _ (by omega) (by omega)) (k6 _ (by omega) (by omega))) (by decide) hB (by omega) (by omega)) w_cd_Nu_move w_ini_Nu w_ml_He_235 w_im_Nu_move w_se_Nu_move hUp.1.1 rfl hd_Nu_move rfl (Nat.le_of_ble_eq_true rfl) d_He_firstLevelApart_80 (by decide) (by decide) (fun v σ4 hp => ?_)
  obtain ⟨rfl, k7, k8⟩ := hp
  rw [mv_atl (by omega)] at k7
  have fr4 : (∀ q, q ≠ B + 9 → q ≠ B + 10 → q ≠ B + 11 → q ≠ B + 12 → σ4 q = σ q) := fun q g1 g2 g3 g4 => by rw [k8 q g3 g4, k6 q g1 g2, k4 q g3 g4, k2 q g1 g2]
  have k5b := k5.mv (k8 _ (by omega) (by omega)) (k8 _ (by omega) (by omega))
  refine q_iload d_He_firstLevelApart_83 rfl ?_
  refine q_ist_6 d_He_firstLevelApart_85 (by decide) rfl ?_
  rcases Int.lt_or_le (min la lb) 0 with hneg | hpos
  · skip
    refine q_iload d_He_firstLevelApart_87 rfl ?_
    refine q_if_lt (tgt := 128) (by omega) d_He_firstLevelApart_89 (by decide) (fun c89 => ?_) (fun c89 => absurd c89 (by omega))
    refine q_iconst d_He_firstLevelApart_128 rfl ?_
    refine q_iload d_He_firstLevelApart_129 rfl ?_
    refine q_iconst d_He_firstLevelApart_131 rfl ?_
    refine q_iadd d_He_firstLevelApart_132 ?_
    refine q_mmax (by omega) (by omega) w_ml_He_80 d_He_firstLevelApart_133 (by decide) (Nat.le_of_ble_eq_true rfl) ?_
    exact q_iret rfl (⟨⟨_, rfl, by omega, fun m g1 g2 => by omega, fun g1 => by omega⟩, fr4⟩) d_He_firstLevelApart_136
  · exact loop (((min la lb) + 1).toNat) (min la lb) (by omega) (Int.le_refl _) σ4 k5b k7 (fun m g1 g2 => by omega) fr4
