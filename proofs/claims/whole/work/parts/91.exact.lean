/-! BENCH: divideByDivisor -/
theorem qs_topc {Q D : Nat → Int} {b k : Nat} (hD : ∀ c, b < c → D c = 0) : qs Q D (k + 1) (k + b) = Q k * D b := by
  have : ∀ n, n ≤ k → qs Q D n (k + b) = 0 := by
    intro n
    induction n with
    | zero => intro _; rfl
    | succ n ih =>
      intro hn
      show qs Q D n (k + b) + Q n * shP D n (k + b) = 0
      rw [ih (by omega)]
      unfold shP
      rw [if_neg (by omega), hD _ (by omega)]
      omega
  show qs Q D k (k + b) + Q k * shP D k (k + b) = _
  rw [this k (Nat.le_refl _)]
  unfold shP
  rw [if_neg (by omega), show k + b - k = b by omega]
  omega
set_option maxHeartbeats 4000000 in
set_option maxRecDepth 100000 in
theorem c_Be_divideByDivisor (l : Launch) (K : pw_K) {L : q_L} {σ : q_S} {B p x a b N M : Nat} {P D Q : Nat → Int} (hbL : beL L B) (hpL : pL L p M 48) (hx : pL L x N 48) (haM : a < M) (ha16 : a < 16) (hba : b ≤ a) (hb9 : b < 9) (hgN : a - b < N) (hdp : p + 2 + 2 * M ≤ B ∨ B + 91 ≤ p) (hdx : x + 2 + 2 * N ≤ B ∨ B + 91 ≤ x) (hpx : p + 2 + 2 * M ≤ x ∨ x + 2 + 2 * N ≤ p) (hda : σ p 1 = a) (hdD : σ (B + 71) 1 = b) (hP : ∀ k, k ≤ a → nV σ (p + 2 + 2 * k) 48 (P k)) (hD : ∀ k, k ≤ b → nV σ (B + 71 + 2 + 2 * k) 48 (D k)) (hDb : D b ≠ 0) (hDz : ∀ c, b < c → D c = 0) (hPQ : ∀ c, c ≤ a → P c = qs Q D (a - b + 1) c) (hQ48 : ∀ k, k ≤ a - b → ((Q k).natAbs : Int) < 2147483648 ^ 48) (hD48 : ∀ k, k ≤ b → ((D k).natAbs : Int) < 2147483648 ^ 48) (hqb : ∀ j, j ≤ a - b + 1 → ∀ c, c ≤ a → ((qs Q D j c).natAbs : Int) < 2147483648 ^ 158) : q_C l K L y_Be_divideByDivisor b_Be_divideByDivisor 6 none 4 [.ref B, .ref p, .ref x] σ (fun r σ' => r = none ∧ σ' x 1 = (top Q (a - b + 1) : Int) - 1 ∧ (∀ k, k ≤ a - b → nV σ' (x + 2 + 2 * k) 48 (Q k)) ∧ ∀ q, q ≠ B + 5 → q ≠ B + 6 → (q ≤ B + 28 ∨ B + 34 < q) → (q < B + 37 ∨ B + 71 ≤ q) → (q < x ∨ x + 2 + 2 * N ≤ q) → σ' q = σ q) := by
  have hp := hpL
  have hb0 := hbL.1
  have hT : nL L (B + 5) 160 := hbL.2.1 2 (by decide)
  have hdi : diL L (B + 28) := hbL.2.2.2.1
  have hR : pL L (B + 37) 16 160 := hbL.2.2.2.2.1
  have hDp : pL L (B + 71) 9 48 := hbL.2.2.2.2.2
  obtain ⟨rg, hrg, hrg2⟩ := hR.2.1
  obtain ⟨xg, hxg, hxg2⟩ := hx.2.1
  obtain ⟨dg, hdg, hdg2⟩ := hDp.2.1
  have hNx := hx.2.2.2
  refine q_start [some (.ref B), some (.ref p), some (.ref x), none, none, none] (by decide) (Nat.le_of_ble_eq_true rfl) (fun q h => h) ?_
  have outer : ∀ (c : Nat), c ≤ a - b + 1 → ∀ (σ1 : q_S), (∀ j, j < c + b → nV σ1 (B + 37 + 2 + 2 * j) 160 (qs Q D c j)) → (∀ j, c ≤ j → j ≤ a - b → nV σ1 (x + 2 + 2 * j) 48 (Q j)) → (∀ q, q ≠ B + 5 → q ≠ B + 6 → (q ≤ B + 28 ∨ B + 34 < q) → (q < B + 37 ∨ B + 71 ≤ q) → (q < x ∨ x + 2 + 2 * N ≤ q) → σ1 q = σ q) → ∀ t : Int, t = (c : Int) - 1 → q_T l K L R_Be b_Be_divideByDivisor 6 none 4 (fun r σ' => r = none ∧ σ' x 1 = (top Q (a - b + 1) : Int) - 1 ∧ (∀ k, k ≤ a - b → nV σ' (x + 2 + 2 * k) 48 (Q k)) ∧ ∀ q, q ≠ B + 5 → q ≠ B + 6 → (q ≤ B + 28 ∨ B + 34 < q) → (q < B + 37 ∨ B + 71 ≤ q) → (q < x ∨ x + 2 + 2 * N ≤ q) → σ' q = σ q) 48 [some (.ref B), some (.ref p), some (.ref x), some (vi ((a - b : Nat) : Int)), some (vi t), none] [] σ1 := by
    intro c
    induction c with
    | zero =>
      intro hc σ1 f1 f2 f3 t ht
      refine q_iload d_Be_divideByDivisor_48 rfl ?_
      refine q_if_lt (tgt := 182) (by omega) d_Be_divideByDivisor_50 (by decide) (fun c50 => ?_) (fun c50 => absurd c50 (by omega))
      refine q_aload_n d_Be_divideByDivisor_182 rfl ?_
      refine q_iload_n d_Be_divideByDivisor_183 rfl ?_
      refine q_topi (show ((a - b : Nat) : Int) = ((a - b + 1 : Nat) : Int) - 1 by omega) ?_
      refine q_callV (As := [vi (((a - b + 1 : Nat) : Int) - 1)]) (q_Py_lower l K (F := a - b + 1) (P := Q) hx (by omega) rfl (by omega) (fun k hk => f2 k (by omega) (by omega))) w_cd_Py_lower w_ini_Py w_ml_Be_133 w_im_Py_lower w_se_Py_lower hx.1 rfl hd_Py_lower rfl (Nat.le_of_ble_eq_true rfl) d_Be_divideByDivisor_184 (by decide) (by decide) (fun v σ2 hp => ?_)
      obtain ⟨rfl, k1, k2⟩ := hp
      exact q_vret rfl (⟨rfl, k1, fun k hk => (f2 k (by omega) hk).mv (k2 _ (by omega)) (k2 _ (by omega)), fun q h1 h2 h3 h4 h5 => by rw [k2 q (by omega)]; exact f3 q h1 h2 h3 h4 h5⟩) d_Be_divideByDivisor_187
    | succ c ih =>
      intro hc σ1 f1 f2 f3 t ht
      have inner : ∀ (r u : Nat), u + r = b + 1 → ∀ (σ4 : q_S), (∀ j, c ≤ j → j < c + u → nV σ4 (B + 37 + 2 + 2 * j) 160 (qs Q D c j)) → (∀ j, (j < c ∨ (c + u ≤ j ∧ j < c + 1 + b)) → nV σ4 (B + 37 + 2 + 2 * j) 160 (qs Q D (c + 1) j)) → (∀ j, c ≤ j → j ≤ a - b → nV σ4 (x + 2 + 2 * j) 48 (Q j)) → (∀ q, q ≠ B + 5 → q ≠ B + 6 → (q ≤ B + 28 ∨ B + 34 < q) → (q < B + 37 ∨ B + 71 ≤ q) → (q < x ∨ x + 2 + 2 * N ≤ q) → σ4 q = σ q) → ∀ s : Int, s = u → q_T l K L R_Be b_Be_divideByDivisor 6 none 4 (fun r σ' => r = none ∧ σ' x 1 = (top Q (a - b + 1) : Int) - 1 ∧ (∀ k, k ≤ a - b → nV σ' (x + 2 + 2 * k) 48 (Q k)) ∧ ∀ q, q ≠ B + 5 → q ≠ B + 6 → (q ≤ B + 28 ∨ B + 34 < q) → (q < B + 37 ∨ B + 71 ≤ q) → (q < x ∨ x + 2 + 2 * N ≤ q) → σ' q = σ q) 113 [some (.ref B), some (.ref p), some (.ref x), some (vi ((a - b : Nat) : Int)), some (vi t), some (vi s)] [] σ4 := by
        intro r
        induction r with
        | zero =>
          intro u hu σ4 j1 j2 j3 j4 s hs
          refine q_iload d_Be_divideByDivisor_113 rfl ?_
          refine q_aload_n d_Be_divideByDivisor_115 rfl ?_
          refine q_gr hb0 pc_Be 15 (by decide) w_fl_Be_78 rfl (by rfl) d_Be_divideByDivisor_116 ?_
          refine q_gi hDp.1 pc_Py 1 (by decide) w_fl_Be_84 rfl (by rfl) d_Be_divideByDivisor_119 ?_
          refine q_topi (show _ = (b : Int) from (congrFun (j4 _ (by omega) (by omega) (by omega) (by omega) (by omega)) 1).trans hdD) ?_
          refine q_icmp_gt (tgt := 176) (by omega) (by omega) d_Be_divideByDivisor_122 (by decide) (fun c122 => ?_) (fun c122 => absurd c122 (by omega))
          refine q_iinc_4 d_Be_divideByDivisor_176 (by decide) rfl ?_
          refine q_goto (tgt := 48) d_Be_divideByDivisor_179 (by decide) ?_
          refine q_drop_5 ?_
          refine ih (by omega) σ4 (fun j hj => ?_) (fun j h1 h2 => j3 j h1 h2) j4 _ (by omega)
          by_cases ej : j < c
          · have := j2 j (by omega)
            have e2 : qs Q D (c + 1) j = qs Q D c j := by
              show qs Q D c j + Q c * shP D c j = _
              unfold shP; rw [if_pos ej]; omega
            rw [e2] at this; exact this
          · exact j1 j (by omega) (by omega)
        | succ r ihi =>
          intro u hu σ4 j1 j2 j3 j4 s hs
          refine q_iload d_Be_divideByDivisor_113 rfl ?_
          refine q_aload_n d_Be_divideByDivisor_115 rfl ?_
          refine q_gr hb0 pc_Be 15 (by decide) w_fl_Be_78 rfl (by rfl) d_Be_divideByDivisor_116 ?_
          refine q_gi hDp.1 pc_Py 1 (by decide) w_fl_Be_84 rfl (by rfl) d_Be_divideByDivisor_119 ?_
          refine q_topi (show _ = (b : Int) from (congrFun (j4 _ (by omega) (by omega) (by omega) (by omega) (by omega)) 1).trans hdD) ?_
          refine q_icmp_gt (tgt := 176) (by omega) (by omega) d_Be_divideByDivisor_122 (by decide) (fun c122 => absurd c122 (by omega)) (fun c122 => ?_)
          refine q_aload_n d_Be_divideByDivisor_125 rfl ?_
          refine q_gr hb0 pc_Be 2 (by decide) w_fl_Be_23 rfl (by rfl) d_Be_divideByDivisor_126 ?_
          refine q_aload_n d_Be_divideByDivisor_129 rfl ?_
          refine q_gr hx.1 pc_Py 0 (by decide) w_fl_Be_95 rfl (by rfl) d_Be_divideByDivisor_130 ?_
          refine q_iload d_Be_divideByDivisor_133 rfl ?_
          refine q_aal (c) 4 (b := x + 2 + 2 * (c)) rfl hxg (by omega) (by omega) (by omega) (hxg2 _ (by omega)) d_Be_divideByDivisor_135 ?_
          refine q_aload_n d_Be_divideByDivisor_136 rfl ?_
          refine q_gr hb0 pc_Be 15 (by decide) w_fl_Be_78 rfl (by rfl) d_Be_divideByDivisor_137 ?_
          refine q_gr hDp.1 pc_Py 0 (by decide) w_fl_Be_95 rfl (by rfl) d_Be_divideByDivisor_140 ?_
          refine q_iload d_Be_divideByDivisor_143 rfl ?_
          refine q_aal (u) 4 (b := B + 71 + 2 + 2 * (u)) rfl hdg (by omega) (by omega) (by omega) (hdg2 _ (by omega)) d_Be_divideByDivisor_145 ?_
          refine q_callV (As := [.ref (x + 2 + 2 * c), .ref (B + 71 + 2 + 2 * u)]) (c_Nu_setProduct l K (u := 48) (v := 48) hT (hx.2.2.1 c (by omega)) (hDp.2.2.1 u (by omega)) (by omega) (by omega) (j3 c (Nat.le_refl _) (by omega)) ((hD (u) (by omega)).mv (j4 _ (by omega) (by omega) (by omega) (by omega) (by omega)) (j4 _ (by omega) (by omega) (by omega) (by omega) (by omega))) (hQ48 c (by omega)) (hD48 u (by omega)) (by decide)) w_cd_Nu_setProduct w_ini_Nu w_ml_Be_91 w_im_Nu_setProduct w_se_Nu_setProduct hT.1.1 rfl hd_Nu_setProduct rfl (Nat.le_of_ble_eq_true rfl) d_Be_divideByDivisor_146 (by decide) (by decide) (fun v σ5 hp => ?_)
          obtain ⟨rfl, k1, k2⟩ := hp
          refine q_aload_n d_Be_divideByDivisor_149 rfl ?_
          refine q_gr hb0 pc_Be 14 (by decide) w_fl_Be_74 rfl (by rfl) d_Be_divideByDivisor_150 ?_
          refine q_gr hR.1 pc_Py 0 (by decide) w_fl_Be_95 rfl (by rfl) d_Be_divideByDivisor_153 ?_
          refine q_iload d_Be_divideByDivisor_156 rfl ?_
          refine q_iload d_Be_divideByDivisor_158 rfl ?_
          refine q_iadd d_Be_divideByDivisor_160 ?_
          refine q_aal (c + u) 4 (b := B + 37 + 2 + 2 * (c + u)) rfl hrg (by omega) (by omega) (by omega) (hrg2 _ (by omega)) d_Be_divideByDivisor_161 ?_
          refine q_aload_n d_Be_divideByDivisor_162 rfl ?_
          refine q_gr hb0 pc_Be 2 (by decide) w_fl_Be_23 rfl (by rfl) d_Be_divideByDivisor_163 ?_
          refine q_iconst d_Be_divideByDivisor_166 rfl ?_
          refine q_callV (As := [.ref (B + 5), vi (-1)]) (c_Nu_add l K (hR.2.2.1 (c + u) (by omega)) hT (by omega) ((j2 (c + u) (by omega)).mv (k2 _ (by omega) (by omega)) (k2 _ (by omega) (by omega))) k1 (Or.inr rfl) (lim_up (hqb (c + 1) (by omega) (c + u) (by omega)) (by decide)) (lim_up (mul_lt_pow (hQ48 c (by omega)) (hD48 u (by omega))) (by decide))) w_cd_Nu_add w_ini_Nu w_ml_Be_110 w_im_Nu_add w_se_Nu_add (hR.2.2.1 (c + u) (by omega)).1.1 rfl hd_Nu_add rfl (Nat.le_of_ble_eq_true rfl) d_Be_divideByDivisor_167 (by decide) (by decide) (fun v σ6 hp => ?_)
          obtain ⟨rfl, k3, k4⟩ := hp
          refine q_iinc_5 d_Be_divideByDivisor_170 (by decide) rfl ?_
          refine q_goto (tgt := 113) d_Be_divideByDivisor_173 (by decide) ?_
          have e1 : qs Q D (c + 1) (c + u) + -1 * (Q c * D u) = qs Q D c (c + u) := by
            show qs Q D c (c + u) + Q c * shP D c (c + u) + -1 * (Q c * D u) = _
            unfold shP; rw [if_neg (by omega), show c + u - c = u by omega]; omega
          rw [e1] at k3
          have k5 : ∀ q, q ≠ B + 5 → q ≠ B + 5 + 1 → q ≠ B + 37 + 2 + 2 * (c + u) → q ≠ B + 37 + 2 + 2 * (c + u) + 1 → σ6 q = σ4 q := fun q h1 h2 h3 h4 => by rw [k4 q h3 h4, k2 q h1 h2]
          refine ihi (u + 1) (by omega) σ6 (fun j h1 h2 => ?_) (fun j hj => (j2 j (by omega)).mv (k5 _ (by omega) (by omega) (by omega) (by omega)) (k5 _ (by omega) (by omega) (by omega) (by omega))) (fun j h1 h2 => (j3 j h1 h2).mv (k5 _ (by omega) (by omega) (by omega) (by omega)) (k5 _ (by omega) (by omega) (by omega) (by omega))) (fun q h1 h2 h3 h4 h5 => by rw [k5 q (by omega) (by omega) (by omega) (by omega)]; exact j4 q h1 h2 h3 h4 h5) _ (by omega)
          exact if ej : j = c + u then by subst ej; exact k3 else (j1 j h1 (by omega)).mv (k5 _ (by omega) (by omega) (by omega) (by omega)) (k5 _ (by omega) (by omega) (by omega) (by omega))
      refine q_iload d_Be_divideByDivisor_48 rfl ?_
      refine q_if_lt (tgt := 182) (by omega) d_Be_divideByDivisor_50 (by decide) (fun c50 => absurd c50 (by omega)) (fun c50 => ?_)
      refine q_aload_n d_Be_divideByDivisor_53 rfl ?_
      refine q_gr hb0 pc_Be 13 (by decide) w_fl_Be_63 rfl (by rfl) d_Be_divideByDivisor_54 ?_
      refine q_aload_n d_Be_divideByDivisor_57 rfl ?_
      refine q_gr hb0 pc_Be 14 (by decide) w_fl_Be_74 rfl (by rfl) d_Be_divideByDivisor_58 ?_
      refine q_gr hR.1 pc_Py 0 (by decide) w_fl_Be_95 rfl (by rfl) d_Be_divideByDivisor_61 ?_
      refine q_iload d_Be_divideByDivisor_64 rfl ?_
      refine q_aload_n d_Be_divideByDivisor_66 rfl ?_
      refine q_gr hb0 pc_Be 15 (by decide) w_fl_Be_78 rfl (by rfl) d_Be_divideByDivisor_67 ?_
      refine q_gi hDp.1 pc_Py 1 (by decide) w_fl_Be_84 rfl (by rfl) d_Be_divideByDivisor_70 ?_
      refine q_topi (show _ = (b : Int) from (congrFun (f3 _ (by omega) (by omega) (by omega) (by omega) (by omega)) 1).trans hdD) ?_
      refine q_iadd d_Be_divideByDivisor_73 ?_
      refine q_aal (c + b) 4 (b := B + 37 + 2 + 2 * (c + b)) rfl hrg (by omega) (by omega) (by omega) (hrg2 _ (by omega)) d_Be_divideByDivisor_74 ?_
      refine q_aload_n d_Be_divideByDivisor_75 rfl ?_
      refine q_gr hb0 pc_Be 15 (by decide) w_fl_Be_78 rfl (by rfl) d_Be_divideByDivisor_76 ?_
      refine q_gr hDp.1 pc_Py 0 (by decide) w_fl_Be_95 rfl (by rfl) d_Be_divideByDivisor_79 ?_
      refine q_aload_n d_Be_divideByDivisor_82 rfl ?_
      refine q_gr hb0 pc_Be 15 (by decide) w_fl_Be_78 rfl (by rfl) d_Be_divideByDivisor_83 ?_
      refine q_gi hDp.1 pc_Py 1 (by decide) w_fl_Be_84 rfl (by rfl) d_Be_divideByDivisor_86 ?_
      refine q_topi (show _ = (b : Int) from (congrFun (f3 _ (by omega) (by omega) (by omega) (by omega) (by omega)) 1).trans hdD) ?_
      refine q_aal (b) 4 (b := B + 71 + 2 + 2 * (b)) rfl hdg (by omega) (by omega) (by omega) (hdg2 _ (by omega)) d_Be_divideByDivisor_89 ?_
      refine q_callV (As := [.ref (B + 37 + 2 + 2 * (c + b)), .ref (B + 71 + 2 + 2 * b)]) (c_Di_divide l K hdi (hR.2.2.1 (c + b) (by omega)) (hDp.2.2.1 b (by omega)) (by omega) (by omega) (f1 (c + b) (by omega)) ((hD (b) (by omega)).mv (f3 _ (by omega) (by omega) (by omega) (by omega) (by omega)) (f3 _ (by omega) (by omega) (by omega) (by omega) (by omega))) hDb (hqb (c + 1) (by omega) (c + b) (by omega)) (lim_up (hD48 b (Nat.le_refl _)) (by decide))) w_cd_Di_divide w_ini_Di w_ml_Be_127 w_im_Di_divide w_se_Di_divide hdi.1 rfl hd_Di_divide rfl (Nat.le_of_ble_eq_true rfl) d_Be_divideByDivisor_90 (by decide) (by decide) (fun v σ2 hp => ?_)
      obtain ⟨rfl, k1, -, k2⟩ := hp
      rw [qs_topc hDz, Int.mul_tdiv_cancel _ hDb] at k1
      refine q_aload_n d_Be_divideByDivisor_93 rfl ?_
      refine q_gr hx.1 pc_Py 0 (by decide) w_fl_Be_95 rfl (by rfl) d_Be_divideByDivisor_94 ?_
      refine q_iload d_Be_divideByDivisor_97 rfl ?_
      refine q_aal (c) 4 (b := x + 2 + 2 * (c)) rfl hxg (by omega) (by omega) (by omega) (hxg2 _ (by omega)) d_Be_divideByDivisor_99 ?_
      refine q_aload_n d_Be_divideByDivisor_100 rfl ?_
      refine q_gr hb0 pc_Be 13 (by decide) w_fl_Be_63 rfl (by rfl) d_Be_divideByDivisor_101 ?_
      refine q_gr hdi.1 pc_Di 0 (by decide) w_fl_Be_130 rfl (by rfl) d_Be_divideByDivisor_104 ?_
      refine q_callV (As := [.ref (B + 28 + 1)]) (c_Nu_copy l K (hx.2.2.1 c (by omega)) hdi.2.1 (by omega) k1 (hQ48 c (by omega))) w_cd_Nu_copy w_ini_Nu w_ml_Be_99 w_im_Nu_copy w_se_Nu_copy (hx.2.2.1 c (by omega)).1.1 rfl hd_Nu_copy rfl (Nat.le_of_ble_eq_true rfl) d_Be_divideByDivisor_107 (by decide) (by decide) (fun v σ3 hp => ?_)
      obtain ⟨rfl, k3, k4⟩ := hp
      refine q_iconst d_Be_divideByDivisor_110 rfl ?_
      refine q_ist_5 d_Be_divideByDivisor_111 (by decide) rfl ?_
      refine inner (b + 1) 0 (by omega) σ3 (fun j h1 h2 => by omega) (fun j hj => (f1 j (by omega)).mv (by rw [k4 _ (by omega) (by omega)]; exact k2 _ (by omega)) (by rw [k4 _ (by omega) (by omega)]; exact k2 _ (by omega))) (fun j h1 h2 => ?_) (fun q h1 h2 h3 h4 h5 => by rw [k4 q (by omega) (by omega), k2 q (by omega)]; exact f3 q h1 h2 h3 h4 h5) _ rfl
      exact if ej : j = c then by subst ej; exact k3 else (f2 j (by omega) h2).mv (by rw [k4 _ (by omega) (by omega)]; exact k2 _ (by omega)) (by rw [k4 _ (by omega) (by omega)]; exact k2 _ (by omega))
  refine q_aload_n d_Be_divideByDivisor_0 rfl ?_
  refine q_gi hp.1 pc_Py 1 (by decide) w_fl_Be_84 rfl (by rfl) d_Be_divideByDivisor_1 ?_
  refine q_topi hda ?_
  refine q_aload_n d_Be_divideByDivisor_4 rfl ?_
  refine q_gr hb0 pc_Be 15 (by decide) w_fl_Be_78 rfl (by rfl) d_Be_divideByDivisor_5 ?_
  refine q_gi hDp.1 pc_Py 1 (by decide) w_fl_Be_84 rfl (by rfl) d_Be_divideByDivisor_8 ?_
  refine q_topi hdD ?_
  refine q_isub d_Be_divideByDivisor_11 ?_
  refine q_topi (show (a : Int) - b = ((a - b : Nat) : Int) by omega) ?_
  refine q_ist_n_3 d_Be_divideByDivisor_12 (by decide) rfl ?_
  refine q_iload_n d_Be_divideByDivisor_13 rfl ?_
  refine q_if_lt (tgt := 36) (by omega) d_Be_divideByDivisor_14 (by decide) (fun c14 => absurd c14 (by omega)) (fun c14 => ?_)
  refine q_iload_n d_Be_divideByDivisor_17 rfl ?_
  refine q_aload_n d_Be_divideByDivisor_18 rfl ?_
  refine q_gr hx.1 pc_Py 0 (by decide) w_fl_Be_95 rfl (by rfl) d_Be_divideByDivisor_19 ?_
  refine q_len 4 rfl hxg d_Be_divideByDivisor_22 ?_
  refine q_icmp_ge (tgt := 36) (by omega) (by omega) d_Be_divideByDivisor_23 (by decide) (fun c23 => absurd c23 (by omega)) (fun c23 => ?_)
  refine q_aload_n d_Be_divideByDivisor_26 rfl ?_
  refine q_gr hb0 pc_Be 15 (by decide) w_fl_Be_78 rfl (by rfl) d_Be_divideByDivisor_27 ?_
  refine q_gi hDp.1 pc_Py 1 (by decide) w_fl_Be_84 rfl (by rfl) d_Be_divideByDivisor_30 ?_
  refine q_topi hdD ?_
  refine q_if_ge (tgt := 37) (by omega) d_Be_divideByDivisor_33 (by decide) (fun c33 => ?_) (fun c33 => absurd c33 (by omega))
  refine q_aload_n d_Be_divideByDivisor_37 rfl ?_
  refine q_gr hb0 pc_Be 14 (by decide) w_fl_Be_74 rfl (by rfl) d_Be_divideByDivisor_38 ?_
  refine q_aload_n d_Be_divideByDivisor_41 rfl ?_
  refine q_callV (As := [.ref p]) (c_Py_copy l K (n := a + 1) (P := P) hR hp (by decide) (by omega) (by omega) (by omega) (by rw [hda]; omega) (fun k hk => hP k (by omega)) (fun k hk => by have := hqb (a - b + 1) (Nat.le_refl _) k (by omega); rw [← hPQ k (by omega)] at this; exact lim_up this (by decide))) w_cd_Py_copy w_ini_Py w_ml_Be_121 w_im_Py_copy w_se_Py_copy hR.1 rfl hd_Py_copy rfl (Nat.le_of_ble_eq_true rfl) d_Be_divideByDivisor_42 (by decide) (by decide) (fun v σ1 hp => ?_)
  obtain ⟨rfl, k1, k2, k3⟩ := hp
  refine q_iload_n d_Be_divideByDivisor_45 rfl ?_
  refine q_ist_4 d_Be_divideByDivisor_46 (by decide) rfl ?_
  exact outer (a - b + 1) (Nat.le_refl _) σ1 (fun j hj => by have := k2 j (by omega); rw [hPQ j (by omega)] at this; exact this) (fun j h1 h2 => by omega) (fun q h1 h2 h3 h4 h5 => k3 q (by omega)) _ (by omega)
