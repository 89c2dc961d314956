/-! HELD: floorTen, firstLevelApart -/
/-- x over 2 to the lev, rounded down -/
def mvd (x lev : Int) : Int := if 0 ≤ -lev then x * 2 ^ (-lev).toNat else x / 2 ^ (-(-lev)).toNat
/-- the whole number of 10 to the n-ths -/
def flt (P : Nat → Int) (nd n : Nat) (z lev ls x : Int) : Int := if x = 0 then (if mvd (z * 10 ^ n) lev = mvd (z * 10 ^ n + 1 * 10 ^ n + -1) lev then mvd (z * 10 ^ n) lev else if (hf P nd (mvd (z * 10 ^ n + 1 * 10 ^ n + -1) lev) (10 ^ n) (nd + 1)).sign = 0 ∨ (hf P nd (mvd (z * 10 ^ n + 1 * 10 ^ n + -1) lev) (10 ^ n) (nd + 1)).sign = ls then mvd (z * 10 ^ n + 1 * 10 ^ n + -1) lev else mvd (z * 10 ^ n) lev) else mvd (z * 10 ^ n) lev
set_option maxHeartbeats 4000000 in
set_option maxRecDepth 100000 in
theorem c_He_floorTen (l : Launch) (K : pw_K) {L : q_L} {σ : q_S} {a B i n nd w u w1 w2 pw cw : Nat} {z lev ls x : Int} {P : Nat → Int} (hL : heL L a) (hbL : beL L B) (hdj : a + 177 ≤ B ∨ B + 91 ≤ a) (hi : i < 8) (hn : n ≤ 90) (hnd : nd < 9) (hdeg : σ (a + 24) 1 = nd) (hP : ∀ k, k ≤ nd → nV σ (a + 24 + 2 + 2 * k) 48 (P k)) (ha : nV σ (a + 153 + 3 * i + 1) 48 z) (hlev : σ (a + 153 + 3 * i) 1 = lev) (hls : σ (a + 153 + 3 * i) 2 = ls) (hls2 : -1 ≤ ls ∧ ls ≤ 1) (hx : σ (a + 153 + 3 * i) 4 = x) (hx2 : x = 0 ∨ x = 1) (hz : (z.natAbs : Int) < 2147483648 ^ w) (hw : w ≤ 48) (hl : -33 ≤ lev ∧ lev < 90000) (hOb : ((mvd (z * 10 ^ n + 1 * 10 ^ n + -1) lev).natAbs : Int) < 2147483648 ^ w1) (hUb : (((10 : Int) ^ n).natAbs : Int) < 2147483648 ^ w2) (hPb : ∀ k, k ≤ nd → ((P k).natAbs : Int) < 2147483648 ^ cw) (hUp : ∀ i, i ≤ nd + 1 → ((((10 : Int) ^ n) ^ i).natAbs : Int) < 2147483648 ^ pw) (hH : ∀ i, i ≤ nd → ((hf P nd (mvd (z * 10 ^ n + 1 * 10 ^ n + -1) lev) (10 ^ n) i).natAbs : Int) < 2147483648 ^ u) (hu1 : u + w1 ≤ 159) (hcp : cw + pw ≤ 159) (hpw : pw + w2 ≤ 160) (hw2 : w2 ≤ 100) : q_C l K L y_He_floorTen b_He_floorTen 6 (some (.object "SturmDesk$Num")) 5 [.ref a, vi i, vi (n : Int), .ref B] σ (fun r σ' => (∃ na, r = some (.ref na) ∧ (na = B + 9 ∨ na = B + 11) ∧ nV σ' na 160 (flt P nd n z lev ls x)) ∧ ∀ q, (q ≤ B ∨ (B + 13 ≤ q ∧ q ≤ B + 14) ∨ B + 17 ≤ q) → σ' q = σ q) := by
  obtain ⟨hH0, -, -, hch, ⟨rg, hrg, hrg2⟩, hroA⟩ := hL
  have hro := hroA i hi
  obtain ⟨hc0, ⟨g, hg1, hg2⟩, hpl⟩ := hch
  have hp0 : pL L (a + 24) 9 48 := hpl 0 (by decide)
  have hb0 := hbL.1
  have hLo : nL L (B + 9) 160 := hbL.2.1 4 (by decide)
  have hUp1 : nL L (B + 11) 160 := hbL.2.1 5 (by decide)
  have hTe : nL L (B + 15) 160 := hbL.2.1 7 (by decide)
  have hpr := mul_lt_pow hz hUb
  have e1 : ((z * 10 ^ n + 1 * 10 ^ n).natAbs : Int) < 2147483648 ^ (w + w2 + 1) := by
    have h1 : (2147483648 : Int) ^ (w + w2 + 1) = 2147483648 ^ (w + w2) * 2147483648 := Int.pow_succ _ _
    have h2 := ip_le (B := 2147483648) (by decide) (show w2 ≤ w + w2 by omega)
    generalize (2147483648 : Int) ^ (w + w2 + 1) = A1 at *
    generalize (2147483648 : Int) ^ (w + w2) = A2 at *
    generalize (2147483648 : Int) ^ w2 = A3 at *
    generalize z * 10 ^ n = Y at *
    generalize (10 : Int) ^ n = Z at *
    omega
  have e2 : ((z * 10 ^ n + 1 * 10 ^ n + -1).natAbs : Int) < 2147483648 ^ (w + w2 + 2) := by
    have h1 : (2147483648 : Int) ^ (w + w2 + 2) = 2147483648 ^ (w + w2 + 1) * 2147483648 := Int.pow_succ _ _
    have h2 := ip_pos (B := 2147483648) (by decide) (w + w2 + 1)
    generalize (2147483648 : Int) ^ (w + w2 + 2) = A1 at *
    generalize (2147483648 : Int) ^ (w + w2 + 1) = A2 at *
    generalize z * 10 ^ n + 1 * 10 ^ n = Y at *
    omega
  have htn : (-lev).toNat ≤ 33 := by omega
  have r9 := sgn_b (hf P nd (mvd (z * 10 ^ n + 1 * 10 ^ n + -1) lev) (10 ^ n) (nd + 1))
  refine q_start [some (.ref a), some (vi i), some (vi (n : Int)), some (.ref B), none, none] (by decide) (Nat.le_of_ble_eq_true rfl) (fun q h => h) ?_
  refine q_aload_n d_He_floorTen_0 rfl ?_
  refine q_gr hH0 pc_He 3 (by decide) w_fl_He_35 rfl (by rfl) d_He_floorTen_1 ?_
  refine q_iload_n d_He_floorTen_4 rfl ?_
  refine q_aal (i) 6 (b := a + 153 + 3 * i) rfl hrg (by omega) (by omega) (by omega) (hrg2 _ hi) d_He_floorTen_5 ?_
  refine q_ast_4 d_He_floorTen_6 (by decide) rfl ?_
  refine q_aload_n d_He_floorTen_8 rfl ?_
  refine q_iload_n d_He_floorTen_9 rfl ?_
  refine q_callV (As := [vi (n : Int)]) (c_Be_setTens l K (n := n) hbL (by omega)) w_cd_Be_setTens w_ini_Be w_ml_He_238 w_im_Be_setTens w_se_Be_setTens hb0 rfl hd_Be_setTens rfl (Nat.le_of_ble_eq_true rfl) d_He_floorTen_10 (by decide) (by decide) (fun v σ1 hp => ?_)
  obtain ⟨rfl, k1, k2⟩ := hp
  refine q_aload_n d_He_floorTen_13 rfl ?_
  refine q_gr hb0 pc_Be 4 (by decide) w_fl_He_205 rfl (by rfl) d_He_floorTen_14 ?_
  refine q_aload d_He_floorTen_17 rfl ?_
  refine q_gr hro.1 pc_Ro 0 (by decide) w_fl_He_150 rfl (by rfl) d_He_floorTen_19 ?_
  refine q_aload_n d_He_floorTen_22 rfl ?_
  refine q_gr hb0 pc_Be 7 (by decide) w_fl_He_241 rfl (by rfl) d_He_floorTen_23 ?_
  refine q_callV (As := [.ref (a + 153 + 3 * i + 1), .ref (B + 15)]) (c_Nu_setProduct l K (u := w) (v := w2) hLo hro.2 hTe (by omega) (by omega) (ha.mv (k2 _ (by omega) (by omega)) (k2 _ (by omega) (by omega))) k1 hz hUb (by omega)) w_cd_Nu_setProduct w_ini_Nu w_ml_He_244 w_im_Nu_setProduct w_se_Nu_setProduct hLo.1.1 rfl hd_Nu_setProduct rfl (Nat.le_of_ble_eq_true rfl) d_He_floorTen_26 (by decide) (by decide) (fun v σ2 hp => ?_)
  obtain ⟨rfl, k3, k4⟩ := hp
  refine q_aload_n d_He_floorTen_29 rfl ?_
  refine q_gr hb0 pc_Be 5 (by decide) w_fl_He_210 rfl (by rfl) d_He_floorTen_30 ?_
  refine q_aload_n d_He_floorTen_33 rfl ?_
  refine q_gr hb0 pc_Be 4 (by decide) w_fl_He_205 rfl (by rfl) d_He_floorTen_34 ?_
  refine q_callV (As := [.ref (B + 9)]) (c_Nu_copy l K hUp1 hLo (by omega) k3 (lim_up hpr (by omega))) w_cd_Nu_copy w_ini_Nu w_ml_He_202 w_im_Nu_copy w_se_Nu_copy hUp1.1.1 rfl hd_Nu_copy rfl (Nat.le_of_ble_eq_true rfl) d_He_floorTen_37 (by decide) (by decide) (fun v σ3 hp => ?_)
  obtain ⟨rfl, k5, k6⟩ := hp
  refine q_aload_n d_He_floorTen_40 rfl ?_
  refine q_gr hb0 pc_Be 5 (by decide) w_fl_He_210 rfl (by rfl) d_He_floorTen_41 ?_
  refine q_aload_n d_He_floorTen_44 rfl ?_
  refine q_gr hb0 pc_Be 7 (by decide) w_fl_He_241 rfl (by rfl) d_He_floorTen_45 ?_
  refine q_iconst d_He_floorTen_48 rfl ?_
  refine q_callV (As := [.ref (B + 15), vi 1]) (c_Nu_add l K hUp1 hTe (by omega) k5 ((k1.mv (k4 _ (by omega) (by omega)) (k4 _ (by omega) (by omega))).mv (k6 _ (by omega) (by omega)) (k6 _ (by omega) (by omega))) (Or.inl rfl) (lim_up hpr (by omega)) (lim_up hUb (by omega))) w_cd_Nu_add w_ini_Nu w_ml_He_213 w_im_Nu_add w_se_Nu_add hUp1.1.1 rfl hd_Nu_add rfl (Nat.le_of_ble_eq_true rfl) d_He_floorTen_49 (by decide) (by decide) (fun v σ4 hp => ?_)
  obtain ⟨rfl, k7, k8⟩ := hp
  refine q_aload_n d_He_floorTen_52 rfl ?_
  refine q_gr hb0 pc_Be 5 (by decide) w_fl_He_210 rfl (by rfl) d_He_floorTen_53 ?_
  refine q_iconst d_He_floorTen_56 rfl ?_
  refine q_callV (As := [vi (-1)]) (c_Nu_step l K hUp1 k7 (Or.inr rfl) (by decide) (lim_up e1 (by omega))) w_cd_Nu_step w_ini_Nu w_ml_He_199 w_im_Nu_step w_se_Nu_step hUp1.1.1 rfl hd_Nu_step rfl (Nat.le_of_ble_eq_true rfl) d_He_floorTen_57 (by decide) (by decide) (fun v σ5 hp => ?_)
  obtain ⟨rfl, k9, k10⟩ := hp
  have fr5 : ∀ q, (q ≤ B ∨ (B + 13 ≤ q ∧ q ≤ B + 14) ∨ B + 17 ≤ q) → σ5 q = σ q := fun q h1 => by rw [k10 q (by omega) (by omega), k8 q (by omega) (by omega), k6 q (by omega) (by omega), k4 q (by omega) (by omega), k2 q (by omega) (by omega)]
  refine q_aload_n d_He_floorTen_60 rfl ?_
  refine q_gr hb0 pc_Be 4 (by decide) w_fl_He_205 rfl (by rfl) d_He_floorTen_61 ?_
  refine q_aload d_He_floorTen_64 rfl ?_
  refine q_gi hro.1 pc_Ro 1 (by decide) w_fl_He_156 rfl (by rfl) d_He_floorTen_66 ?_
  refine q_topi (show _ = lev by rw [fr5 _ (by omega)]; exact hlev) ?_
  refine q_ineg d_He_floorTen_69 ?_
  refine q_callV (As := [vi (-lev)]) (c_Nu_move l K (u := w + w2) hLo (((k3.mv (k6 _ (by omega) (by omega)) (k6 _ (by omega) (by omega))).mv (k8 _ (by omega) (by omega)) (k8 _ (by omega) (by omega))).mv (k10 _ (by omega) (by omega)) (k10 _ (by omega) (by omega))) (by decide) hpr (by omega) (by omega)) w_cd_Nu_move w_ini_Nu w_ml_He_235 w_im_Nu_move w_se_Nu_move hLo.1.1 rfl hd_Nu_move rfl (Nat.le_of_ble_eq_true rfl) d_He_floorTen_70 (by decide) (by decide) (fun v σ6 hp => ?_)
  obtain ⟨rfl, k11, k12⟩ := hp
  replace k11 : nV σ6 (B + 9) 160 (mvd (z * 10 ^ n) lev) := k11
  refine q_aload_n d_He_floorTen_73 rfl ?_
  refine q_gr hb0 pc_Be 5 (by decide) w_fl_He_210 rfl (by rfl) d_He_floorTen_74 ?_
  refine q_aload d_He_floorTen_77 rfl ?_
  refine q_gi hro.1 pc_Ro 1 (by decide) w_fl_He_156 rfl (by rfl) d_He_floorTen_79 ?_
  refine q_topi (show _ = lev by rw [k12 _ (by omega) (by omega), fr5 _ (by omega)]; exact hlev) ?_
  refine q_ineg d_He_floorTen_82 ?_
  refine q_callV (As := [vi (-lev)]) (c_Nu_move l K (u := w + w2 + 2) hUp1 (k9.mv (k12 _ (by omega) (by omega)) (k12 _ (by omega) (by omega))) (by decide) e2 (by omega) (by omega)) w_cd_Nu_move w_ini_Nu w_ml_He_235 w_im_Nu_move w_se_Nu_move hUp1.1.1 rfl hd_Nu_move rfl (Nat.le_of_ble_eq_true rfl) d_He_floorTen_83 (by decide) (by decide) (fun v σ7 hp => ?_)
  obtain ⟨rfl, k13, k14⟩ := hp
  replace k13 : nV σ7 (B + 11) 160 (mvd (z * 10 ^ n + 1 * 10 ^ n + -1) lev) := k13
  have k11b := k11.mv (k14 _ (by omega) (by omega)) (k14 _ (by omega) (by omega))
  have fr7 : ∀ q, (q ≤ B ∨ (B + 13 ≤ q ∧ q ≤ B + 14) ∨ B + 17 ≤ q) → σ7 q = σ q := fun q h1 => by rw [k14 q (by omega) (by omega), k12 q (by omega) (by omega)]; exact fr5 q h1
  refine q_aload d_He_floorTen_86 rfl ?_
  refine q_gi hro.1 pc_Ro 4 (by decide) w_fl_He_177 rfl (by rfl) d_He_floorTen_88 ?_
  refine q_topi (show _ = x by rw [fr7 _ (by omega)]; exact hx) ?_
  refine q_if_ne (tgt := 108) (by omega) d_He_floorTen_91 (by decide) (fun cx => ?_) (fun cx => ?_)
  · refine q_aload_n d_He_floorTen_108 rfl ?_
    refine q_gr hb0 pc_Be 4 (by decide) w_fl_He_205 rfl (by rfl) d_He_floorTen_109 ?_
    exact q_aret rfl (⟨⟨_, rfl, Or.inl rfl, by unfold flt; rw [if_neg cx]; exact k11b⟩, fr7⟩) d_He_floorTen_112
  · refine q_aload_n d_He_floorTen_94 rfl ?_
    refine q_gr hb0 pc_Be 4 (by decide) w_fl_He_205 rfl (by rfl) d_He_floorTen_95 ?_
    refine q_aload_n d_He_floorTen_98 rfl ?_
    refine q_gr hb0 pc_Be 5 (by decide) w_fl_He_210 rfl (by rfl) d_He_floorTen_99 ?_
    refine q_callV (As := [.ref (B + 11)]) (c_Nu_same l K hLo hUp1 k11b k13) w_cd_Nu_same w_ini_Nu w_ml_He_247 w_im_Nu_same w_se_Nu_same hLo.1.1 rfl hd_Nu_same rfl (Nat.le_of_ble_eq_true rfl) d_He_floorTen_102 (by decide) (by decide) (fun v σ9 hp => ?_)
    obtain ⟨rfl, hσ⟩ := hp
    rw [hσ]
    clear hσ σ9
    refine q_if_eq (tgt := 113) (by split <;> omega) d_He_floorTen_105 (by decide) (fun cs => ?_) (fun cs => ?_)
    · refine q_aload_n d_He_floorTen_113 rfl ?_
      refine q_aload_n d_He_floorTen_114 rfl ?_
      skip
      refine q_gr hH0 pc_He 2 (by decide) w_fl_He_29 rfl (by rfl) d_He_floorTen_115 ?_
      refine q_gr hc0 pc_Ch 0 (by decide) w_fl_He_57 rfl (by rfl) d_He_floorTen_118 ?_
      refine q_iconst d_He_floorTen_121 rfl ?_
      refine q_aal (0) 5 (b := a + 24) rfl hg1 (by omega) (by omega) (by omega) (hg2 0 (by decide)) d_He_floorTen_122 ?_
      refine q_aload_n d_He_floorTen_123 rfl ?_
      refine q_gr hb0 pc_Be 5 (by decide) w_fl_He_210 rfl (by rfl) d_He_floorTen_124 ?_
      refine q_aload_n d_He_floorTen_127 rfl ?_
      refine q_gr hb0 pc_Be 7 (by decide) w_fl_He_241 rfl (by rfl) d_He_floorTen_128 ?_
      refine q_callV (As := [.ref (a + 24), .ref (B + 11), .ref (B + 15)]) (c_Be_signAtFraction l K σ7 (n := nd) (u := u) (w1 := w1) (w2 := w2) (pw := pw) (cw := cw) (P := P) hbL hp0 hUp1 hTe hnd (by omega) (by omega) (by omega) (by rw [fr7 _ (by omega)]; exact hdeg) (fun k hk => (hP k hk).mv (fr7 _ (by omega)) (fr7 _ (by omega))) k13 ((((((k1.mv (k4 _ (by omega) (by omega)) (k4 _ (by omega) (by omega))).mv (k6 _ (by omega) (by omega)) (k6 _ (by omega) (by omega))).mv (k8 _ (by omega) (by omega)) (k8 _ (by omega) (by omega))).mv (k10 _ (by omega) (by omega)) (k10 _ (by omega) (by omega))).mv (k12 _ (by omega) (by omega)) (k12 _ (by omega) (by omega))).mv (k14 _ (by omega) (by omega)) (k14 _ (by omega) (by omega))) hOb hUb hPb hUp hH hu1 hcp hpw) w_cd_Be_signAtFraction w_ini_Be w_ml_He_251 w_im_Be_signAtFraction w_se_Be_signAtFraction hb0 rfl hd_Be_signAtFraction rfl (Nat.le_of_ble_eq_true rfl) d_He_floorTen_131 (by decide) (by decide) (fun v σ8 hp => ?_)
      obtain ⟨rfl, k15⟩ := hp
      have hne : ¬ mvd (z * 10 ^ n) lev = mvd (z * 10 ^ n + 1 * 10 ^ n + -1) lev := by intro h9; rw [if_pos h9] at cs; omega
      refine q_ist_5 d_He_floorTen_134 (by decide) rfl ?_
      refine q_iload d_He_floorTen_136 rfl ?_
      refine q_if_eq (tgt := 151) (by omega) d_He_floorTen_138 (by decide) (fun cn => ?_) (fun cn => ?_)
      · refine q_aload_n d_He_floorTen_151 rfl ?_
        refine q_gr hb0 pc_Be 5 (by decide) w_fl_He_210 rfl (by rfl) d_He_floorTen_152 ?_
        refine q_goto (tgt := 162) d_He_floorTen_155 (by decide) ?_
        exact q_aret rfl (⟨⟨_, rfl, Or.inr rfl, by unfold flt; rw [if_pos cx, if_neg hne, if_pos (Or.inl cn)]; exact k13.mv (k15 _ (by omega)) (k15 _ (by omega))⟩, fun q h1 => by rw [k15 q (by omega)]; exact fr7 q h1⟩) d_He_floorTen_162
      · refine q_iload d_He_floorTen_141 rfl ?_
        refine q_aload d_He_floorTen_143 rfl ?_
        refine q_gi hro.1 pc_Ro 2 (by decide) w_fl_He_174 rfl (by rfl) d_He_floorTen_145 ?_
        refine q_topi (show _ = ls by rw [k15 _ (by omega), fr7 _ (by omega)]; exact hls) ?_
        refine q_icmp_ne (tgt := 158) (by omega) (by omega) d_He_floorTen_148 (by decide) (fun cl => ?_) (fun cl => ?_)
        · refine q_aload_n d_He_floorTen_158 rfl ?_
          refine q_gr hb0 pc_Be 4 (by decide) w_fl_He_205 rfl (by rfl) d_He_floorTen_159 ?_
          exact q_aret rfl (⟨⟨_, rfl, Or.inl rfl, by unfold flt; rw [if_pos cx, if_neg hne, if_neg (fun h => h.elim cn cl)]; exact k11b.mv (k15 _ (by omega)) (k15 _ (by omega))⟩, fun q h1 => by rw [k15 q (by omega)]; exact fr7 q h1⟩) d_He_floorTen_162
        · refine q_aload_n d_He_floorTen_151 rfl ?_
          refine q_gr hb0 pc_Be 5 (by decide) w_fl_He_210 rfl (by rfl) d_He_floorTen_152 ?_
          refine q_goto (tgt := 162) d_He_floorTen_155 (by decide) ?_
          exact q_aret rfl (⟨⟨_, rfl, Or.inr rfl, by unfold flt; rw [if_pos cx, if_neg hne, if_pos (Or.inr cl)]; exact k13.mv (k15 _ (by omega)) (k15 _ (by omega))⟩, fun q h1 => by rw [k15 q (by omega)]; exact fr7 q h1⟩) d_He_floorTen_162
    · refine q_aload_n d_He_floorTen_108 rfl ?_
      refine q_gr hb0 pc_Be 4 (by decide) w_fl_He_205 rfl (by rfl) d_He_floorTen_109 ?_
      exact q_aret rfl (⟨⟨_, rfl, Or.inl rfl, by unfold flt; rw [if_pos cx, if_pos (by by_cases h9 : mvd (z * 10 ^ n) lev = mvd (z * 10 ^ n + 1 * 10 ^ n + -1) lev; exact h9; rw [if_neg h9] at cs; exact absurd rfl cs)]; exact k11b⟩, fr7⟩) d_He_floorTen_112
