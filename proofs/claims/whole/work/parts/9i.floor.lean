/-! HELD: halveAtMiddle, floorTwo, floorTen -/
set_option maxHeartbeats 4000000 in
set_option maxRecDepth 100000 in
theorem c_He_halveAtMiddle (l : Launch) (K : pw_K) {L : q_L} {σ : q_S} {a B i n u v c w : Nat} {z lev ls : Int} {P : Nat → Int} (hL : heL L a) (hbL : beL L B) (hdj : a + 177 ≤ B ∨ B + 91 ≤ a) (hi : i < 8) (hn8 : n < 9) (hdeg : σ (a + 24) 1 = n) (hP : ∀ k, k ≤ n → nV σ (a + 24 + 2 + 2 * k) 48 (P k)) (hPb : ∀ k, k ≤ n → ((P k).natAbs : Int) < 2147483648 ^ c) (ha : nV σ (a + 153 + 3 * i + 1) 48 z) (hlev : σ (a + 153 + 3 * i) 1 = lev) (hls : σ (a + 153 + 3 * i) 2 = ls) (hls2 : -1 ≤ ls ∧ ls ≤ 1) (hz : (z.natAbs : Int) < 2147483648 ^ w) (hw : w ≤ 43) (hl : -33 ≤ lev ∧ lev < 90000) (hX : ((ptX (z * 2 ^ 1 + 1) (lev + 1)).natAbs : Int) < 2147483648 ^ v) (hH : ∀ i, i ≤ n → ((hv P n (ptX (z * 2 ^ 1 + 1) (lev + 1)) (ptE (lev + 1)) i).natAbs : Int) < 2147483648 ^ u) (huv : u + v ≤ 159) (hcw : c + ptE (lev + 1) * n / 31 + 1 ≤ 159) : q_C l K L y_He_halveAtMiddle b_He_halveAtMiddle 5 none 5 [.ref a, .ref (a + 153 + 3 * i), .ref B] σ (fun r σ' => r = none ∧ nV σ' (a + 153 + 3 * i + 1) 48 (z * 2 ^ 1 + (if (hv P n (ptX (z * 2 ^ 1 + 1) (lev + 1)) (ptE (lev + 1)) (n + 1)).sign = 0 ∨ (hv P n (ptX (z * 2 ^ 1 + 1) (lev + 1)) (ptE (lev + 1)) (n + 1)).sign = ls then 1 else 0)) ∧ σ' (a + 153 + 3 * i) 1 = lev + 1 ∧ σ' (a + 153 + 3 * i) 4 = (if (hv P n (ptX (z * 2 ^ 1 + 1) (lev + 1)) (ptE (lev + 1)) (n + 1)).sign = 0 then 1 else 0) ∧ (∀ k, k ≠ 1 → k ≠ 4 → σ' (a + 153 + 3 * i) k = σ (a + 153 + 3 * i) k) ∧ ∀ q, (q ≤ B ∨ (B + 7 ≤ q ∧ q ≤ B + 24) ∨ B + 28 ≤ q) → (q < a + 153 + 3 * i ∨ a + 153 + 3 * i + 2 < q) → σ' q = σ q) := by
  obtain ⟨hH0, -, -, hch, ⟨rg, hrg, hrg2⟩, hroA⟩ := hL
  have hro := hroA i hi
  obtain ⟨hc0, ⟨g, hg1, hg2⟩, hpl⟩ := hch
  have hb0 := hbL.1
  have hbV := hbL.vb
  have hpt : ptL L (B + 25) := hbL.2.2.1
  have h1L : nL L (B + 1) 160 := hbL.2.1 0 (by decide)
  have h3L : nL L (B + 3) 160 := hbL.2.1 1 (by decide)
  have hp0 : pL L (a + 24) 9 48 := hpl 0 (by decide)
  refine q_start [some (.ref a), some (.ref (a + 153 + 3 * i)), some (.ref B), none, none] (by decide) (Nat.le_of_ble_eq_true rfl) (fun q h => h) ?_
  refine q_aload_n d_He_halveAtMiddle_0 rfl ?_
  refine q_gr hb0 pc_Be 12 (by decide) w_fl_He_140 rfl (by rfl) d_He_halveAtMiddle_1 ?_
  refine q_ast_n_3 d_He_halveAtMiddle_4 (by decide) rfl ?_
  refine q_aload_n d_He_halveAtMiddle_5 rfl ?_
  refine q_aload_n d_He_halveAtMiddle_6 rfl ?_
  refine q_callV (As := [.ref (B + 25)]) (c_Ro_toMiddle l K (u := w) hro hpt (by omega) ha hlev hz (by omega) (by omega)) w_cd_Ro_toMiddle w_ini_Ro w_ml_He_159 w_im_Ro_toMiddle w_se_Ro_toMiddle hro.1 rfl hd_Ro_toMiddle rfl (Nat.le_of_ble_eq_true rfl) d_He_halveAtMiddle_7 (by decide) (by decide) (fun v σ1 hp => ?_)
  obtain ⟨rfl, k1, ⟨k2, k3⟩, k4⟩ := hp
  refine q_aload_n d_He_halveAtMiddle_10 rfl ?_
  refine q_aload_n d_He_halveAtMiddle_11 rfl ?_
  refine q_gr hH0 pc_He 2 (by decide) w_fl_He_29 rfl (by rfl) d_He_halveAtMiddle_12 ?_
  refine q_gr hc0 pc_Ch 0 (by decide) w_fl_He_57 rfl (by rfl) d_He_halveAtMiddle_15 ?_
  refine q_iconst d_He_halveAtMiddle_18 rfl ?_
  refine q_aal (0) 5 (b := a + 24) rfl hg1 (by omega) (by omega) (by omega) (hg2 0 (by decide)) d_He_halveAtMiddle_19 ?_
  refine q_aload_n d_He_halveAtMiddle_20 rfl ?_
  refine q_callV (As := [.ref (a + 24), .ref (B + 25)]) (c_Be_valueAt l K σ1 (x := B + 25) (n := n) (z := 0) (ex := ptE (lev + 1)) (u := u) (v := v) (c := c) (X := ptX (z * 2 ^ 1 + 1) (lev + 1)) (P := P) hbV hp0 hpt (Or.inl rfl) hn8 (by omega) (by omega) (by rw [k4 _ (by omega) (by omega) (by omega) (by omega) (by omega), hdeg]; omega) (fun j hj => (hP j hj).mv (k4 _ (by omega) (by omega) (by omega) (by omega) (by omega)) (k4 _ (by omega) (by omega) (by omega) (by omega) (by omega))) k2 (k3.trans (ptE_m _)) (by unfold ptE; omega) hX hPb hH huv hcw) w_cd_Be_valueAt w_ini_Be w_ml_He_170 w_im_Be_valueAt w_se_Be_valueAt hb0 rfl hd_Be_valueAt rfl (Nat.le_of_ble_eq_true rfl) d_He_halveAtMiddle_21 (by decide) (by decide) (fun v σ2 hp => ?_)
  obtain ⟨⟨na, rfl, hna, k5⟩, k6⟩ := hp
  rw [Nat.sub_zero] at k5
  have hnL : nL L na 160 := by rcases hna with h | h <;> rw [h] <;> assumption
  have r1 := sgn_b (hv P n (ptX (z * 2 ^ 1 + 1) (lev + 1)) (ptE (lev + 1)) (n + 1))
  refine q_gi hnL.1.1 pc_Nu 2 (by decide) w_fl_He_124 rfl (by rfl) d_He_halveAtMiddle_24 ?_
  refine q_topi k5.sgn ?_
  refine q_ist_4 d_He_halveAtMiddle_27 (by decide) rfl ?_
  refine q_aload_n d_He_halveAtMiddle_29 rfl ?_
  refine q_iload d_He_halveAtMiddle_30 rfl ?_
  refine q_jn1 (V := if (hv P n (ptX (z * 2 ^ 1 + 1) (lev + 1)) (ptE (lev + 1)) (n + 1)).sign = 0 ∨ (hv P n (ptX (z * 2 ^ 1 + 1) (lev + 1)) (ptE (lev + 1)) (n + 1)).sign = ls then (1 : Int) else 0) 49 (fun jn => ?_) ?_
  · refine q_if_eq (tgt := 44) (by omega) d_He_halveAtMiddle_32 (by decide) (fun cz => ?_) (fun cz => ?_)
    · refine q_iconst d_He_halveAtMiddle_44 rfl ?_
      refine q_goto (tgt := 49) d_He_halveAtMiddle_45 (by decide) ?_
      exact jn _ ((if_pos (Or.inl cz)).symm)
    · refine q_iload d_He_halveAtMiddle_35 rfl ?_
      refine q_aload_n d_He_halveAtMiddle_37 rfl ?_
      refine q_gi hro.1 pc_Ro 2 (by decide) w_fl_He_174 rfl (by rfl) d_He_halveAtMiddle_38 ?_
      refine q_topi (show _ = ls by rw [k6 _ (by omega), k4 _ (by omega) (by omega) (by omega) (by omega) (by omega)]; exact hls) ?_
      refine q_icmp_ne (tgt := 48) (by omega) (by omega) d_He_halveAtMiddle_41 (by decide) (fun ce => ?_) (fun ce => ?_)
      · refine q_iconst d_He_halveAtMiddle_48 rfl ?_
        exact jn _ ((by first | exact (if_pos (Or.inr ce)).symm | exact (if_neg (fun h => h.elim cz ce)).symm))
      · refine q_iconst d_He_halveAtMiddle_44 rfl ?_
        refine q_goto (tgt := 49) d_He_halveAtMiddle_45 (by decide) ?_
        exact jn _ ((by first | exact (if_pos (Or.inr ce)).symm | exact (if_neg (fun h => h.elim cz ce)).symm))
  · refine q_callV (As := [vi (if (hv P n (ptX (z * 2 ^ 1 + 1) (lev + 1)) (ptE (lev + 1)) (n + 1)).sign = 0 ∨ (hv P n (ptX (z * 2 ^ 1 + 1) (lev + 1)) (ptE (lev + 1)) (n + 1)).sign = ls then (1 : Int) else 0)]) (c_Ro_halve l K (u := w) (lev := lev) hro (k1.mv (k6 _ (by omega)) (k6 _ (by omega))) (by rw [k6 _ (by omega), k4 _ (by omega) (by omega) (by omega) (by omega) (by omega)]; exact hlev) (by split; exact Or.inr rfl; exact Or.inl rfl) hz (by omega)) w_cd_Ro_halve w_ini_Ro w_ml_He_163 w_im_Ro_halve w_se_Ro_halve hro.1 rfl hd_Ro_halve rfl (Nat.le_of_ble_eq_true rfl) d_He_halveAtMiddle_49 (by decide) (by decide) (fun v σ3 hp => ?_)
    obtain ⟨rfl, k7, k8, k9, k10⟩ := hp
    refine q_aload_n d_He_halveAtMiddle_52 rfl ?_
    refine q_iload d_He_halveAtMiddle_53 rfl ?_
    refine q_jn1 (V := if (hv P n (ptX (z * 2 ^ 1 + 1) (lev + 1)) (ptE (lev + 1)) (n + 1)).sign = 0 then (1 : Int) else 0) 63 (fun jn => ?_) ?_
    · refine q_if_ne (tgt := 62) (by omega) d_He_halveAtMiddle_55 (by decide) (fun cf => ?_) (fun cf => ?_)
      · refine q_iconst d_He_halveAtMiddle_62 rfl ?_
        exact jn _ ((if_neg cf).symm)
      · refine q_iconst d_He_halveAtMiddle_58 rfl ?_
        refine q_goto (tgt := 63) d_He_halveAtMiddle_59 (by decide) ?_
        exact jn _ ((if_pos cf).symm)
    · refine q_pi hro.1 pc_Ro 4 (by decide) w_fl_He_177 rfl rfl (by split <;> rfl) (by split <;> rfl) (by rfl) d_He_halveAtMiddle_63 ?_
      exact q_vret rfl (⟨rfl, k7.mv (q_up_a _ _ (by omega)) (q_up_a _ _ (by omega)), by rw [q_up_k _ _ (by decide)]; exact k8, by rw [q_up_self], fun k h1 h2 => by rw [q_up_k _ _ h2, k9 k h1, k6 _ (by omega), k4 _ (by omega) (by omega) (by omega) (by omega) (by omega)], fun q h1 h2 => by rw [q_up_a _ _ (by omega), k10 q (by omega) (by omega) (by omega), k6 q (by omega), k4 q (by omega) (by omega) (by omega) (by omega) (by omega)]⟩) d_He_halveAtMiddle_66
set_option maxHeartbeats 4000000 in
set_option maxRecDepth 100000 in
theorem c_He_floorTwo (l : Launch) (K : pw_K) {L : q_L} {σ : q_S} {a B i u : Nat} {z lev n : Int} (hL : heL L a) (hbL : beL L B) (hdj : a + 177 ≤ B ∨ B + 91 ≤ a) (hi : i < 8) (ha : nV σ (a + 153 + 3 * i + 1) 48 z) (hlev : σ (a + 153 + 3 * i) 1 = lev) (hn : 0 ≤ n ∧ n ≤ 300) (hl : -33 ≤ lev ∧ lev < 90000) (hz : (z.natAbs : Int) < 2147483648 ^ u) (hu : u ≤ 48) : q_C l K L y_He_floorTwo b_He_floorTwo 5 (some (.object "SturmDesk$Num")) 5 [.ref a, vi i, vi n, .ref B] σ (fun r σ' => r = some (.ref (B + 9)) ∧ nV σ' (B + 9) 160 (if 0 ≤ n - lev then z * 2 ^ (n - lev).toNat else z / 2 ^ (-(n - lev)).toNat) ∧ ∀ q, q ≠ B + 9 → q ≠ B + 10 → σ' q = σ q) := by
  obtain ⟨hH0, -, -, hch, ⟨rg, hrg, hrg2⟩, hroA⟩ := hL
  have hro := hroA i hi
  have hb0 := hbL.1
  have hLo : nL L (B + 9) 160 := hbL.2.1 4 (by decide)
  refine q_start [some (.ref a), some (vi i), some (vi n), some (.ref B), none] (by decide) (Nat.le_of_ble_eq_true rfl) (fun q h => h) ?_
  refine q_aload_n d_He_floorTwo_0 rfl ?_
  refine q_gr hH0 pc_He 3 (by decide) w_fl_He_35 rfl (by rfl) d_He_floorTwo_1 ?_
  refine q_iload_n d_He_floorTwo_4 rfl ?_
  refine q_aal (i) 6 (b := a + 153 + 3 * i) rfl hrg (by omega) (by omega) (by omega) (hrg2 _ hi) d_He_floorTwo_5 ?_
  refine q_ast_4 d_He_floorTwo_6 (by decide) rfl ?_
  refine q_aload_n d_He_floorTwo_8 rfl ?_
  refine q_gr hb0 pc_Be 4 (by decide) w_fl_He_205 rfl (by rfl) d_He_floorTwo_9 ?_
  refine q_aload d_He_floorTwo_12 rfl ?_
  refine q_gr hro.1 pc_Ro 0 (by decide) w_fl_He_150 rfl (by rfl) d_He_floorTwo_14 ?_
  refine q_callV (As := [.ref (a + 153 + 3 * i + 1)]) (c_Nu_copy l K hLo hro.2 (by omega) ha (lim_up hz (by omega))) w_cd_Nu_copy w_ini_Nu w_ml_He_202 w_im_Nu_copy w_se_Nu_copy hLo.1.1 rfl hd_Nu_copy rfl (Nat.le_of_ble_eq_true rfl) d_He_floorTwo_17 (by decide) (by decide) (fun v σ1 hp => ?_)
  obtain ⟨rfl, k1, k2⟩ := hp
  refine q_aload_n d_He_floorTwo_20 rfl ?_
  refine q_gr hb0 pc_Be 4 (by decide) w_fl_He_205 rfl (by rfl) d_He_floorTwo_21 ?_
  refine q_iload_n d_He_floorTwo_24 rfl ?_
  refine q_aload d_He_floorTwo_25 rfl ?_
  refine q_gi hro.1 pc_Ro 1 (by decide) w_fl_He_156 rfl (by rfl) d_He_floorTwo_27 ?_
  refine q_topi (show _ = lev by rw [k2 _ (by omega) (by omega)]; exact hlev) ?_
  refine q_isub d_He_floorTwo_30 ?_
  refine q_callV (As := [vi (n - lev)]) (c_Nu_move l K (u := u) hLo k1 (by decide) hz (by omega) (by omega)) w_cd_Nu_move w_ini_Nu w_ml_He_235 w_im_Nu_move w_se_Nu_move hLo.1.1 rfl hd_Nu_move rfl (Nat.le_of_ble_eq_true rfl) d_He_floorTwo_31 (by decide) (by decide) (fun v σ2 hp => ?_)
  obtain ⟨rfl, k3, k4⟩ := hp
  refine q_aload_n d_He_floorTwo_34 rfl ?_
  refine q_gr hb0 pc_Be 4 (by decide) w_fl_He_205 rfl (by rfl) d_He_floorTwo_35 ?_
  exact q_aret rfl (⟨rfl, k3, fun q h1 h2 => by rw [k4 q h1 h2, k2 q h1 h2]⟩) d_He_floorTwo_38
