/-! CHAIN: keepRest, raiseHeight -/
theorem nV_turn {σ : q_S} {a w : Nat} {z : Int} (h : nV σ a w z) : nV (q_up σ a 2 (-z.sign)) a w (-z) := by
  have := nV_mulsg h (Or.inr rfl)
  rw [show z.sign * -1 = -z.sign by omega, show z * -1 = -z by omega] at this
  exact this
set_option maxHeartbeats 4000000 in
set_option maxRecDepth 100000 in
theorem c_Ch_keepRest (l : Launch) (K : pw_K) {L : q_L} {σ : q_S} {ch x B N D g pz hz : Nat} {S H : Int} {W : Nat → Int} (hbL : beL L B) (hx : pL L x N 48) (hDN : D ≤ N) (hD0 : 0 < D) (hD16 : D ≤ 16) (hg : g < 100) (hdx : x + 2 + 2 * N ≤ B ∨ B + 91 ≤ x) (hD : σ (B + 37) 1 = (D : Int) - 1) (hS : nV σ (B + 17) 160 S) (hH : nV σ (B + 19) 160 H) (hW : ∀ k, k < D → nV σ (B + 37 + 2 + 2 * k) 160 (W k)) (hne : S * H ^ g ≠ 0) (hSb : ∀ k, k ≤ g → ((S * H ^ k).natAbs : Int) < 2147483648 ^ pz) (hHb : (H.natAbs : Int) < 2147483648 ^ hz) (hph : pz + hz ≤ 158) (hWb : ∀ k, k < D → ((W k).natAbs : Int) < 2147483648 ^ 158) (hQb : ∀ k, k < D → (((W k).tdiv (S * H ^ g)).natAbs : Int) < 2147483648 ^ 48) : q_C l K L y_Ch_keepRest b_Ch_keepRest 5 none 4 [.ref ch, .ref x, vi g, .ref B] σ (fun r σ' => r = none ∧ σ' x 1 = (top (fun k => -((W k).tdiv (S * H ^ g))) D : Int) - 1 ∧ (∀ k, k < D → nV σ' (x + 2 + 2 * k) 48 (-((W k).tdiv (S * H ^ g)))) ∧ ∀ q, (q < B + 21 ∨ B + 24 < q) → (q ≤ B + 28 ∨ B + 34 < q) → (q < x ∨ x + 2 + 2 * N ≤ q) → σ' q = σ q) := by
  have hb0 := hbL.1
  have hSc : nL L (B + 17) 160 := hbL.2.1 8 (by decide)
  have hHt : nL L (B + 19) 160 := hbL.2.1 9 (by decide)
  have hSh : nL L (B + 21) 160 := hbL.2.1 10 (by decide)
  have hSp : nL L (B + 23) 160 := hbL.2.1 11 (by decide)
  have hdi : diL L (B + 28) := hbL.2.2.2.1
  have hR : pL L (B + 37) 16 160 := hbL.2.2.2.2.1
  obtain ⟨rg, hrg, hrg2⟩ := hR.2.1
  obtain ⟨xg, hxg, hxg2⟩ := hx.2.1
  have hNx := hx.2.2.2
  have hS158 : ((S * H ^ g).natAbs : Int) < 2147483648 ^ 158 := by have := hSb g (Nat.le_refl _); have := ip_le (B := 2147483648) (by decide) (show pz ≤ 158 by omega); omega
  refine q_start [some (.ref ch), some (.ref x), some (vi g), some (.ref B), none] (by decide) (Nat.le_of_ble_eq_true rfl) (fun q h => h) ?_
  have loop2 : ∀ (d k : Nat), k + d = D → ∀ (σ1 : q_S), nV σ1 (B + 21) 160 (S * H ^ g) → (∀ i, i < k → nV σ1 (x + 2 + 2 * i) 48 (-((W i).tdiv (S * H ^ g)))) → (∀ q, (q < B + 21 ∨ B + 24 < q) → (q ≤ B + 28 ∨ B + 34 < q) → (q < x ∨ x + 2 + 2 * N ≤ q) → σ1 q = σ q) → ∀ t : Int, t = k → q_T l K L R_Ch b_Ch_keepRest 5 none 4 (fun r σ' => r = none ∧ σ' x 1 = (top (fun k => -((W k).tdiv (S * H ^ g))) D : Int) - 1 ∧ (∀ k, k < D → nV σ' (x + 2 + 2 * k) 48 (-((W k).tdiv (S * H ^ g)))) ∧ ∀ q, (q < B + 21 ∨ B + 24 < q) → (q ≤ B + 28 ∨ B + 34 < q) → (q < x ∨ x + 2 + 2 * N ≤ q) → σ' q = σ q) 55 [some (.ref ch), some (.ref x), some (vi g), some (.ref B), some (vi t)] [] σ1 := by
    intro d
    induction d with
    | zero =>
      intro k hk σ1 f1 f2 f3 t ht
      refine q_iload d_Ch_keepRest_55 rfl ?_
      refine q_aload_n d_Ch_keepRest_57 rfl ?_
      refine q_gr hb0 pc_Be 14 (by decide) w_fl_Ch_57 rfl (by rfl) d_Ch_keepRest_58 ?_
      refine q_gi hR.1 pc_Py 1 (by decide) w_fl_Ch_35 rfl (by rfl) d_Ch_keepRest_61 ?_
      refine q_topi (show _ = (D : Int) - 1 from (congrFun (f3 _ (by omega) (by omega) (by omega)) 1).trans hD) ?_
      refine q_icmp_gt (tgt := 142) (by omega) (by omega) d_Ch_keepRest_64 (by decide) (fun c64 => ?_) (fun c64 => absurd c64 (by omega))
      refine q_aload_n d_Ch_keepRest_142 rfl ?_
      refine q_aload_n d_Ch_keepRest_143 rfl ?_
      refine q_gr hb0 pc_Be 14 (by decide) w_fl_Ch_57 rfl (by rfl) d_Ch_keepRest_144 ?_
      refine q_gi hR.1 pc_Py 1 (by decide) w_fl_Ch_35 rfl (by rfl) d_Ch_keepRest_147 ?_
      refine q_topi (show _ = (D : Int) - 1 from (congrFun (f3 _ (by omega) (by omega) (by omega)) 1).trans hD) ?_
      refine q_callV (As := [vi ((D : Int) - 1)]) (q_Py_lower l K (F := D) (P := fun k => -((W k).tdiv (S * H ^ g))) hx (by omega) rfl hDN (fun i hi => f2 i (by omega))) w_cd_Py_lower w_ini_Py w_ml_Ch_100 w_im_Py_lower w_se_Py_lower hx.1 rfl hd_Py_lower rfl (Nat.le_of_ble_eq_true rfl) d_Ch_keepRest_150 (by decide) (by decide) (fun v σ2 hp => ?_)
      obtain ⟨rfl, k1, k2⟩ := hp
      exact q_vret rfl (⟨rfl, k1, fun i hi => (f2 i (by omega)).mv (k2 _ (by omega)) (k2 _ (by omega)), fun q h1 h2 h3 => by rw [k2 q (by omega)]; exact f3 q h1 h2 h3⟩) d_Ch_keepRest_153
    | succ d ih =>
      intro k hk σ1 f1 f2 f3 t ht
      refine q_iload d_Ch_keepRest_55 rfl ?_
      refine q_aload_n d_Ch_keepRest_57 rfl ?_
      refine q_gr hb0 pc_Be 14 (by decide) w_fl_Ch_57 rfl (by rfl) d_Ch_keepRest_58 ?_
      refine q_gi hR.1 pc_Py 1 (by decide) w_fl_Ch_35 rfl (by rfl) d_Ch_keepRest_61 ?_
      refine q_topi (show _ = (D : Int) - 1 from (congrFun (f3 _ (by omega) (by omega) (by omega)) 1).trans hD) ?_
      refine q_icmp_gt (tgt := 142) (by omega) (by omega) d_Ch_keepRest_64 (by decide) (fun c64 => absurd c64 (by omega)) (fun c64 => ?_)
      refine q_iload d_Ch_keepRest_67 rfl ?_
      refine q_aload_n d_Ch_keepRest_69 rfl ?_
      refine q_gr hx.1 pc_Py 0 (by decide) w_fl_Ch_65 rfl (by rfl) d_Ch_keepRest_70 ?_
      refine q_len 4 rfl hxg d_Ch_keepRest_73 ?_
      refine q_icmp_ge (tgt := 142) (by omega) (by omega) d_Ch_keepRest_74 (by decide) (fun c74 => absurd c74 (by omega)) (fun c74 => ?_)
      refine q_aload_n d_Ch_keepRest_77 rfl ?_
      refine q_gr hb0 pc_Be 13 (by decide) w_fl_Ch_109 rfl (by rfl) d_Ch_keepRest_78 ?_
      refine q_aload_n d_Ch_keepRest_81 rfl ?_
      refine q_gr hb0 pc_Be 14 (by decide) w_fl_Ch_57 rfl (by rfl) d_Ch_keepRest_82 ?_
      refine q_gr hR.1 pc_Py 0 (by decide) w_fl_Ch_65 rfl (by rfl) d_Ch_keepRest_85 ?_
      refine q_iload d_Ch_keepRest_88 rfl ?_
      refine q_aal (k) 4 (b := B + 37 + 2 + 2 * k) rfl hrg (by omega) (by omega) (by omega) (hrg2 _ (by omega)) d_Ch_keepRest_90 ?_
      refine q_aload_n d_Ch_keepRest_91 rfl ?_
      refine q_gr hb0 pc_Be 10 (by decide) w_fl_Ch_103 rfl (by rfl) d_Ch_keepRest_92 ?_
      refine q_callV (As := [.ref (B + 37 + 2 + 2 * k), .ref (B + 21)]) (c_Di_divide l K hdi (hR.2.2.1 k (by omega)) hSh (by omega) (by omega) ((hW k (by omega)).mv (f3 _ (by omega) (by omega) (by omega)) (f3 _ (by omega) (by omega) (by omega))) f1 hne (hWb k (by omega)) hS158) w_cd_Di_divide w_ini_Di w_ml_Ch_113 w_im_Di_divide w_se_Di_divide hdi.1 rfl hd_Di_divide rfl (Nat.le_of_ble_eq_true rfl) d_Ch_keepRest_95 (by decide) (by decide) (fun v σ2 hp => ?_)
      obtain ⟨rfl, k1, k2, k3⟩ := hp
      refine q_aload_n d_Ch_keepRest_98 rfl ?_
      refine q_gr hx.1 pc_Py 0 (by decide) w_fl_Ch_65 rfl (by rfl) d_Ch_keepRest_99 ?_
      refine q_iload d_Ch_keepRest_102 rfl ?_
      refine q_aal (k) 4 (b := x + 2 + 2 * k) rfl hxg (by omega) (by omega) (by omega) (hxg2 _ (by omega)) d_Ch_keepRest_104 ?_
      refine q_aload_n d_Ch_keepRest_105 rfl ?_
      refine q_gr hb0 pc_Be 13 (by decide) w_fl_Ch_109 rfl (by rfl) d_Ch_keepRest_106 ?_
      refine q_gr hdi.1 pc_Di 0 (by decide) w_fl_Ch_118 rfl (by rfl) d_Ch_keepRest_109 ?_
      refine q_callV (As := [.ref (B + 28 + 1)]) (c_Nu_copy l K (hx.2.2.1 k (by omega)) hdi.2.1 (by omega) k1 (hQb k (by omega))) w_cd_Nu_copy w_ini_Nu w_ml_Ch_69 w_im_Nu_copy w_se_Nu_copy (hx.2.2.1 k (by omega)).1.1 rfl hd_Nu_copy rfl (Nat.le_of_ble_eq_true rfl) d_Ch_keepRest_112 (by decide) (by decide) (fun v σ3 hp => ?_)
      obtain ⟨rfl, k4, k5⟩ := hp
      refine q_aload_n d_Ch_keepRest_115 rfl ?_
      refine q_gr hx.1 pc_Py 0 (by decide) w_fl_Ch_65 rfl (by rfl) d_Ch_keepRest_116 ?_
      refine q_iload d_Ch_keepRest_119 rfl ?_
      refine q_aal (k) 4 (b := x + 2 + 2 * k) rfl hxg (by omega) (by omega) (by omega) (hxg2 _ (by omega)) d_Ch_keepRest_121 ?_
      refine q_aload_n d_Ch_keepRest_122 rfl ?_
      refine q_gr hx.1 pc_Py 0 (by decide) w_fl_Ch_65 rfl (by rfl) d_Ch_keepRest_123 ?_
      refine q_iload d_Ch_keepRest_126 rfl ?_
      refine q_aal (k) 4 (b := x + 2 + 2 * k) rfl hxg (by omega) (by omega) (by omega) (hxg2 _ (by omega)) d_Ch_keepRest_128 ?_
      refine q_gi (hx.2.2.1 k (by omega)).1.1 pc_Nu 2 (by decide) w_fl_Ch_72 rfl (by rfl) d_Ch_keepRest_129 ?_
      refine q_topi k4.sgn ?_
      refine q_ineg d_Ch_keepRest_132 ?_
      refine q_pi (hx.2.2.1 k (by omega)).1.1 pc_Nu 2 (by decide) w_fl_Ch_72 rfl rfl rfl rfl (by rfl) d_Ch_keepRest_133 ?_
      refine q_iinc_4 d_Ch_keepRest_136 (by decide) rfl ?_
      refine q_goto (tgt := 55) d_Ch_keepRest_139 (by decide) ?_
      have kk := nV_turn k4
      refine ih (k + 1) (by omega) _ (f1.mv (by rw [q_up_a _ _ (by omega), k5 _ (by omega) (by omega)]; exact k3 _ (by omega)) (by rw [q_up_a _ _ (by omega), k5 _ (by omega) (by omega)]; exact k3 _ (by omega))) (fun i hi => ?_) (fun q h1 h2 h3 => ?_) _ (by omega)
      · exact if e : i = k then by subst e; exact kk else (f2 i (by omega)).mv (by rw [q_up_a _ _ (by omega), k5 _ (by omega) (by omega)]; exact k3 _ (by omega)) (by rw [q_up_a _ _ (by omega), k5 _ (by omega) (by omega)]; exact k3 _ (by omega))
      · rw [q_up_a _ _ (by omega), k5 q (by omega) (by omega), k3 q (by omega)]; exact f3 q h1 h2 h3
  have loop1 : ∀ (d k : Nat), k + d = g → ∀ (σ1 : q_S), nV σ1 (B + 21) 160 (S * H ^ k) → (∀ q, (q < B + 21 ∨ B + 24 < q) → (q ≤ B + 28 ∨ B + 34 < q) → (q < x ∨ x + 2 + 2 * N ≤ q) → σ1 q = σ q) → ∀ t : Int, t = k → q_T l K L R_Ch b_Ch_keepRest 5 none 4 (fun r σ' => r = none ∧ σ' x 1 = (top (fun k => -((W k).tdiv (S * H ^ g))) D : Int) - 1 ∧ (∀ k, k < D → nV σ' (x + 2 + 2 * k) 48 (-((W k).tdiv (S * H ^ g)))) ∧ ∀ q, (q < B + 21 ∨ B + 24 < q) → (q ≤ B + 28 ∨ B + 34 < q) → (q < x ∨ x + 2 + 2 * N ≤ q) → σ' q = σ q) 14 [some (.ref ch), some (.ref x), some (vi g), some (.ref B), some (vi t)] [] σ1 := by
    intro d
    induction d with
    | zero =>
      intro k hk σ1 f1 f2 t ht
      refine q_iload d_Ch_keepRest_14 rfl ?_
      refine q_iload_n d_Ch_keepRest_16 rfl ?_
      refine q_icmp_ge (tgt := 52) (by omega) (by omega) d_Ch_keepRest_17 (by decide) (fun c17 => ?_) (fun c17 => absurd c17 (by omega))
      refine q_iconst d_Ch_keepRest_52 rfl ?_
      refine q_ist_4 d_Ch_keepRest_53 (by decide) rfl ?_
      have eg : g = k := by omega
      exact loop2 D 0 (by omega) σ1 (by rw [eg]; exact f1) (fun i hi => by omega) f2 _ rfl
    | succ d ih =>
      intro k hk σ1 f1 f2 t ht
      refine q_iload d_Ch_keepRest_14 rfl ?_
      refine q_iload_n d_Ch_keepRest_16 rfl ?_
      refine q_icmp_ge (tgt := 52) (by omega) (by omega) d_Ch_keepRest_17 (by decide) (fun c17 => absurd c17 (by omega)) (fun c17 => ?_)
      refine q_aload_n d_Ch_keepRest_20 rfl ?_
      refine q_gr hb0 pc_Be 11 (by decide) w_fl_Ch_106 rfl (by rfl) d_Ch_keepRest_21 ?_
      refine q_aload_n d_Ch_keepRest_24 rfl ?_
      refine q_gr hb0 pc_Be 10 (by decide) w_fl_Ch_103 rfl (by rfl) d_Ch_keepRest_25 ?_
      refine q_aload_n d_Ch_keepRest_28 rfl ?_
      refine q_gr hb0 pc_Be 9 (by decide) w_fl_Ch_50 rfl (by rfl) d_Ch_keepRest_29 ?_
      refine q_callV (As := [.ref (B + 21), .ref (B + 19)]) (c_Nu_setProduct l K (u := pz) (v := hz) hSp hSh hHt (by omega) (by omega) f1 (hH.mv (f2 _ (by omega) (by omega) (by omega)) (f2 _ (by omega) (by omega) (by omega))) (hSb k (by omega)) hHb (by omega)) w_cd_Nu_setProduct w_ini_Nu w_ml_Ch_89 w_im_Nu_setProduct w_se_Nu_setProduct hSp.1.1 rfl hd_Nu_setProduct rfl (Nat.le_of_ble_eq_true rfl) d_Ch_keepRest_32 (by decide) (by decide) (fun v σ2 hp => ?_)
      obtain ⟨rfl, k1, k2⟩ := hp
      rw [show S * H ^ k * H = S * H ^ (k + 1) by rw [Int.pow_succ, Int.mul_assoc]] at k1
      refine q_aload_n d_Ch_keepRest_35 rfl ?_
      refine q_gr hb0 pc_Be 10 (by decide) w_fl_Ch_103 rfl (by rfl) d_Ch_keepRest_36 ?_
      refine q_aload_n d_Ch_keepRest_39 rfl ?_
      refine q_gr hb0 pc_Be 11 (by decide) w_fl_Ch_106 rfl (by rfl) d_Ch_keepRest_40 ?_
      refine q_callV (As := [.ref (B + 23)]) (c_Nu_copy l K hSh hSp (by omega) k1 (by have := hSb (k + 1) (by omega); have := ip_le (B := 2147483648) (by decide) (show pz ≤ 160 by omega); omega)) w_cd_Nu_copy w_ini_Nu w_ml_Ch_69 w_im_Nu_copy w_se_Nu_copy hSh.1.1 rfl hd_Nu_copy rfl (Nat.le_of_ble_eq_true rfl) d_Ch_keepRest_43 (by decide) (by decide) (fun v σ3 hp => ?_)
      obtain ⟨rfl, k3, k4⟩ := hp
      refine q_iinc_4 d_Ch_keepRest_46 (by decide) rfl ?_
      refine q_goto (tgt := 14) d_Ch_keepRest_49 (by decide) ?_
      exact ih (k + 1) (by omega) σ3 k3 (fun q h1 h2 h3 => by rw [k4 q (by omega) (by omega), k2 q (by omega) (by omega)]; exact f2 q h1 h2 h3) _ (by omega)
  refine q_aload_n d_Ch_keepRest_0 rfl ?_
  refine q_gr hb0 pc_Be 10 (by decide) w_fl_Ch_103 rfl (by rfl) d_Ch_keepRest_1 ?_
  refine q_aload_n d_Ch_keepRest_4 rfl ?_
  refine q_gr hb0 pc_Be 8 (by decide) w_fl_Ch_38 rfl (by rfl) d_Ch_keepRest_5 ?_
  refine q_callV (As := [.ref (B + 17)]) (c_Nu_copy l K hSh hSc (by omega) hS (by have := hSb 0 (by omega); have := ip_le (B := 2147483648) (by decide) (show pz ≤ 160 by omega); simp only [Int.pow_zero, Int.mul_one] at *; omega)) w_cd_Nu_copy w_ini_Nu w_ml_Ch_69 w_im_Nu_copy w_se_Nu_copy hSh.1.1 rfl hd_Nu_copy rfl (Nat.le_of_ble_eq_true rfl) d_Ch_keepRest_8 (by decide) (by decide) (fun v σ1 hp => ?_)
  obtain ⟨rfl, k1, k2⟩ := hp
  refine q_iconst d_Ch_keepRest_11 rfl ?_
  refine q_ist_4 d_Ch_keepRest_12 (by decide) rfl ?_
  exact loop1 g 0 (by omega) σ1 (by rw [Int.pow_zero, Int.mul_one]; exact k1) (fun q h1 h2 h3 => k2 q (by omega) (by omega)) _ rfl
set_option maxHeartbeats 4000000 in
set_option maxRecDepth 100000 in
theorem c_Ch_raiseHeight (l : Launch) (K : pw_K) {L : q_L} {σ : q_S} {ch B g mz sz : Nat} {S H : Int} {M : Nat → Int} (hbL : beL L B) (hg : g < 100) (hS : nV σ (B + 17) 160 S) (hH : nV σ (B + 19) 160 H) (hH0 : H ≠ 0) (hM1 : M 1 = S) (hM : ∀ k, 1 ≤ k → k < g → M (k + 1) * H = M k * S) (hMb : ∀ k, 1 ≤ k → k ≤ g → ((M k).natAbs : Int) < 2147483648 ^ mz) (hSb : (S.natAbs : Int) < 2147483648 ^ sz) (hHb : (H.natAbs : Int) < 2147483648 ^ 158) (hms : mz + sz ≤ 158) : q_C l K L y_Ch_raiseHeight b_Ch_raiseHeight 4 none 4 [.ref ch, vi g, .ref B] σ (fun r σ' => r = none ∧ nV σ' (B + 19) 160 (if g = 0 then H else M g) ∧ ∀ q, (q < B + 19 ∨ B + 24 < q) → (q ≤ B + 28 ∨ B + 34 < q) → σ' q = σ q) := by
  have hb0 := hbL.1
  have hSc : nL L (B + 17) 160 := hbL.2.1 8 (by decide)
  have hHt : nL L (B + 19) 160 := hbL.2.1 9 (by decide)
  have hSh : nL L (B + 21) 160 := hbL.2.1 10 (by decide)
  have hSp : nL L (B + 23) 160 := hbL.2.1 11 (by decide)
  have hdi : diL L (B + 28) := hbL.2.2.2.1
  refine q_start [some (.ref ch), some (vi g), some (.ref B), none] (by decide) (Nat.le_of_ble_eq_true rfl) (fun q h => h) ?_
  have loop : ∀ (d k : Nat), k + d = g → 1 ≤ k → ∀ (σ1 : q_S), nV σ1 (B + 21) 160 (M k) → (∀ q, (q < B + 21 ∨ B + 24 < q) → (q ≤ B + 28 ∨ B + 34 < q) → σ1 q = σ q) → ∀ t : Int, t = k → q_T l K L R_Ch b_Ch_raiseHeight 4 none 4 (fun r σ' => r = none ∧ nV σ' (B + 19) 160 (if g = 0 then H else M g) ∧ ∀ q, (q < B + 19 ∨ B + 24 < q) → (q ≤ B + 28 ∨ B + 34 < q) → σ' q = σ q) 18 [some (.ref ch), some (vi g), some (.ref B), some (vi t)] [] σ1 := by
    intro d
    induction d with
    | zero =>
      intro k hk hk1 σ1 f1 f2 t ht
      refine q_iload_n d_Ch_raiseHeight_18 rfl ?_
      refine q_iload_n d_Ch_raiseHeight_19 rfl ?_
      refine q_icmp_ge (tgt := 73) (by omega) (by omega) d_Ch_raiseHeight_20 (by decide) (fun c20 => ?_) (fun c20 => absurd c20 (by omega))
      refine q_aload_n d_Ch_raiseHeight_73 rfl ?_
      refine q_gr hb0 pc_Be 9 (by decide) w_fl_Ch_50 rfl (by rfl) d_Ch_raiseHeight_74 ?_
      refine q_aload_n d_Ch_raiseHeight_77 rfl ?_
      refine q_gr hb0 pc_Be 10 (by decide) w_fl_Ch_103 rfl (by rfl) d_Ch_raiseHeight_78 ?_
      refine q_callV (As := [.ref (B + 21)]) (c_Nu_copy l K hHt hSh (by omega) f1 (by have := hMb k (by omega) (by omega); have := ip_le (B := 2147483648) (by decide) (show mz ≤ 160 by omega); omega)) w_cd_Nu_copy w_ini_Nu w_ml_Ch_69 w_im_Nu_copy w_se_Nu_copy hHt.1.1 rfl hd_Nu_copy rfl (Nat.le_of_ble_eq_true rfl) d_Ch_raiseHeight_81 (by decide) (by decide) (fun v σ2 hp => ?_)
      obtain ⟨rfl, k1, k2⟩ := hp
      exact q_vret rfl (⟨rfl, by rw [if_neg (by omega), show g = k by omega]; exact k1, fun q h1 h2 => by rw [k2 q (by omega) (by omega)]; exact f2 q (by omega) h2⟩) d_Ch_raiseHeight_84
    | succ d ih =>
      intro k hk hk1 σ1 f1 f2 t ht
      refine q_iload_n d_Ch_raiseHeight_18 rfl ?_
      refine q_iload_n d_Ch_raiseHeight_19 rfl ?_
      refine q_icmp_ge (tgt := 73) (by omega) (by omega) d_Ch_raiseHeight_20 (by decide) (fun c20 => absurd c20 (by omega)) (fun c20 => ?_)
      refine q_aload_n d_Ch_raiseHeight_23 rfl ?_
      refine q_gr hb0 pc_Be 11 (by decide) w_fl_Ch_106 rfl (by rfl) d_Ch_raiseHeight_24 ?_
      refine q_aload_n d_Ch_raiseHeight_27 rfl ?_
      refine q_gr hb0 pc_Be 10 (by decide) w_fl_Ch_103 rfl (by rfl) d_Ch_raiseHeight_28 ?_
      refine q_aload_n d_Ch_raiseHeight_31 rfl ?_
      refine q_gr hb0 pc_Be 8 (by decide) w_fl_Ch_38 rfl (by rfl) d_Ch_raiseHeight_32 ?_
      refine q_callV (As := [.ref (B + 21), .ref (B + 17)]) (c_Nu_setProduct l K (u := mz) (v := sz) hSp hSh hSc (by omega) (by omega) f1 (hS.mv (f2 _ (by omega) (by omega)) (f2 _ (by omega) (by omega))) (hMb k (by omega) (by omega)) hSb (by omega)) w_cd_Nu_setProduct w_ini_Nu w_ml_Ch_89 w_im_Nu_setProduct w_se_Nu_setProduct hSp.1.1 rfl hd_Nu_setProduct rfl (Nat.le_of_ble_eq_true rfl) d_Ch_raiseHeight_35 (by decide) (by decide) (fun v σ2 hp => ?_)
      obtain ⟨rfl, k1, k2⟩ := hp
      refine q_aload_n d_Ch_raiseHeight_38 rfl ?_
      refine q_gr hb0 pc_Be 13 (by decide) w_fl_Ch_109 rfl (by rfl) d_Ch_raiseHeight_39 ?_
      refine q_aload_n d_Ch_raiseHeight_42 rfl ?_
      refine q_gr hb0 pc_Be 11 (by decide) w_fl_Ch_106 rfl (by rfl) d_Ch_raiseHeight_43 ?_
      refine q_aload_n d_Ch_raiseHeight_46 rfl ?_
      refine q_gr hb0 pc_Be 9 (by decide) w_fl_Ch_50 rfl (by rfl) d_Ch_raiseHeight_47 ?_
      refine q_callV (As := [.ref (B + 23), .ref (B + 19)]) (c_Di_divide l K hdi hSp hHt (by omega) (by omega) k1 (hH.mv (by rw [k2 _ (by omega) (by omega)]; exact f2 _ (by omega) (by omega)) (by rw [k2 _ (by omega) (by omega)]; exact f2 _ (by omega) (by omega))) hH0 (by have := mul_lt_pow (hMb k (by omega) (by omega)) hSb; have := ip_le (B := 2147483648) (by decide) (show mz + sz ≤ 158 by omega); omega) hHb) w_cd_Di_divide w_ini_Di w_ml_Ch_113 w_im_Di_divide w_se_Di_divide hdi.1 rfl hd_Di_divide rfl (Nat.le_of_ble_eq_true rfl) d_Ch_raiseHeight_50 (by decide) (by decide) (fun v σ3 hp => ?_)
      obtain ⟨rfl, k3, -, k4⟩ := hp
      rw [← hM k (by omega) (by omega), Int.mul_tdiv_cancel _ hH0] at k3
      refine q_aload_n d_Ch_raiseHeight_53 rfl ?_
      refine q_gr hb0 pc_Be 10 (by decide) w_fl_Ch_103 rfl (by rfl) d_Ch_raiseHeight_54 ?_
      refine q_aload_n d_Ch_raiseHeight_57 rfl ?_
      refine q_gr hb0 pc_Be 13 (by decide) w_fl_Ch_109 rfl (by rfl) d_Ch_raiseHeight_58 ?_
      refine q_gr hdi.1 pc_Di 0 (by decide) w_fl_Ch_118 rfl (by rfl) d_Ch_raiseHeight_61 ?_
      refine q_callV (As := [.ref (B + 28 + 1)]) (c_Nu_copy l K hSh hdi.2.1 (by omega) k3 (by have := hMb (k + 1) (by omega) (by omega); have := ip_le (B := 2147483648) (by decide) (show mz ≤ 160 by omega); omega)) w_cd_Nu_copy w_ini_Nu w_ml_Ch_69 w_im_Nu_copy w_se_Nu_copy hSh.1.1 rfl hd_Nu_copy rfl (Nat.le_of_ble_eq_true rfl) d_Ch_raiseHeight_64 (by decide) (by decide) (fun v σ4 hp => ?_)
      obtain ⟨rfl, k5, k6⟩ := hp
      refine q_iinc_3 d_Ch_raiseHeight_67 (by decide) rfl ?_
      refine q_goto (tgt := 18) d_Ch_raiseHeight_70 (by decide) ?_
      exact ih (k + 1) (by omega) (by omega) σ4 k5 (fun q h1 h2 => by rw [k6 q (by omega) (by omega), k4 q (by omega), k2 q (by omega) (by omega)]; exact f2 q h1 h2) _ (by omega)
  refine q_iload_n d_Ch_raiseHeight_0 rfl ?_
  refine q_if_ne (tgt := 5) (by omega) d_Ch_raiseHeight_1 (by decide) (fun c1 => ?_) (fun c1 => ?_)
  · refine q_aload_n d_Ch_raiseHeight_5 rfl ?_
    refine q_gr hb0 pc_Be 10 (by decide) w_fl_Ch_103 rfl (by rfl) d_Ch_raiseHeight_6 ?_
    refine q_aload_n d_Ch_raiseHeight_9 rfl ?_
    refine q_gr hb0 pc_Be 8 (by decide) w_fl_Ch_38 rfl (by rfl) d_Ch_raiseHeight_10 ?_
    refine q_callV (As := [.ref (B + 17)]) (c_Nu_copy l K hSh hSc (by omega) hS (by have := ip_le (B := 2147483648) (by decide) (show sz ≤ 160 by omega); omega)) w_cd_Nu_copy w_ini_Nu w_ml_Ch_69 w_im_Nu_copy w_se_Nu_copy hSh.1.1 rfl hd_Nu_copy rfl (Nat.le_of_ble_eq_true rfl) d_Ch_raiseHeight_13 (by decide) (by decide) (fun v σ1 hp => ?_)
    obtain ⟨rfl, k1, k2⟩ := hp
    refine q_iconst d_Ch_raiseHeight_16 rfl ?_
    refine q_ist_n_3 d_Ch_raiseHeight_17 (by decide) rfl ?_
    exact loop (g - 1) 1 (by omega) (by omega) σ1 (by rw [hM1]; exact k1) (fun q h1 h2 => k2 q (by omega) (by omega)) _ rfl
  · exact q_vret rfl (⟨rfl, by rw [if_pos (by omega)]; exact hH, fun q _ _ => rfl⟩) d_Ch_raiseHeight_4
