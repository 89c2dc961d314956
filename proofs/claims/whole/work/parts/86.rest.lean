/-! CHAIN: leaveRest -/
/-- what is left of U, times the magnitude of V's top coefficient t times, after t steps -/
def lw (U V : Nat → Int) (a b : Nat) : Nat → Nat → Int
  | 0, k => U k
  | t + 1, k => (lw U V a b t k * V b - lw U V a b t (a - t) * shP V (a - t - b) k) * (V b).sign
theorem lw_s (U V : Nat → Int) (a b t k : Nat) : lw U V a b (t + 1) k = (lw U V a b t k * V b - lw U V a b t (a - t) * shP V (a - t - b) k) * (V b).sign := rfl
set_option maxHeartbeats 4000000 in
set_option maxRecDepth 100000 in
theorem c_Ch_leaveRest (l : Launch) (K : pw_K) {L : q_L} {σ : q_S} {ch u v B a b Nu Nv z vw : Nat} {U V : Nat → Int} (hbL : beL L B) (hu : pL L u Nu 48) (hv : pL L v Nv 48) (haN : a < Nu) (ha16 : a < 16) (hbN : b < Nv) (hba : b ≤ a) (hb1 : 1 ≤ b) (hdu : u + 2 + 2 * Nu ≤ B ∨ B + 91 ≤ u) (hdv : v + 2 + 2 * Nv ≤ B ∨ B + 91 ≤ v) (hda : σ u 1 = a) (hdb : σ v 1 = b) (hU : ∀ k, k ≤ a → nV σ (u + 2 + 2 * k) 48 (U k)) (hV : ∀ k, k ≤ b → nV σ (v + 2 + 2 * k) 48 (V k)) (hVl : V b ≠ 0) (hW : ∀ t, t ≤ a - b → ∀ k, k ≤ a → ((lw U V a b t k).natAbs : Int) < 2147483648 ^ z) (hVb : ∀ k, k ≤ b → ((V k).natAbs : Int) < 2147483648 ^ vw) (hzv : z + vw ≤ 159) : q_C l K L y_Ch_leaveRest b_Ch_leaveRest 9 none 3 [.ref ch, .ref u, .ref v, .ref B] σ (fun r σ' => r = none ∧ σ' (B + 37) 1 = (top (lw U V a b (a - b + 1)) b : Int) - 1 ∧ (∀ k, k < b → nV σ' (B + 37 + 2 + 2 * k) 160 (lw U V a b (a - b + 1) k)) ∧ ∀ q, q ≠ B + 5 → q ≠ B + 6 → q ≠ B + 9 → q ≠ B + 10 → q ≠ B + 11 → q ≠ B + 12 → (q < B + 37 ∨ B + 71 ≤ q) → σ' q = σ q) := by
  have hb0 := hbL.1
  have hT : nL L (B + 5) 160 := hbL.2.1 2 (by decide)
  have hLo : nL L (B + 9) 160 := hbL.2.1 4 (by decide)
  have hUp : nL L (B + 11) 160 := hbL.2.1 5 (by decide)
  have hR : pL L (B + 37) 16 160 := hbL.2.2.2.2.1
  obtain ⟨rg, hrg, hrg2⟩ := hR.2.1
  obtain ⟨vg, hvg, hvg2⟩ := hv.2.1
  have hNv := hv.2.2.2
  have hNu := hu.2.2.2
  have hsg : (V b).sign = 1 ∨ (V b).sign = -1 := by have := sg3 (V b); have : (V b).sign ≠ 0 := fun h => hVl (Int.sign_eq_zero_iff_zero.1 h); omega
  refine q_start [some (.ref ch), some (.ref u), some (.ref v), some (.ref B), none, none, none, none, none] (by decide) (Nat.le_of_ble_eq_true rfl) (fun q h => h) ?_
  have outer : ∀ (d t : Nat), t + d = a - b + 1 → ∀ (σ1 : q_S), (∀ k, k ≤ a - t → nV σ1 (B + 37 + 2 + 2 * k) 160 (lw U V a b t k)) → (∀ q, q ≠ B + 5 → q ≠ B + 6 → q ≠ B + 9 → q ≠ B + 10 → q ≠ B + 11 → q ≠ B + 12 → (q < B + 37 ∨ B + 71 ≤ q) → σ1 q = σ q) → ∀ g : Int, g = (a : Int) - b - t → q_T l K L R_Ch b_Ch_leaveRest 9 none 3 (fun r σ' => r = none ∧ σ' (B + 37) 1 = (top (lw U V a b (a - b + 1)) b : Int) - 1 ∧ (∀ k, k < b → nV σ' (B + 37 + 2 + 2 * k) 160 (lw U V a b (a - b + 1) k)) ∧ ∀ q, q ≠ B + 5 → q ≠ B + 6 → q ≠ B + 9 → q ≠ B + 10 → q ≠ B + 11 → q ≠ B + 12 → (q < B + 37 ∨ B + 71 ≤ q) → σ' q = σ q) 34 [some (.ref ch), some (.ref u), some (.ref v), some (.ref B), some (.ref (B + 37)), some (.ref (v + 2 + 2 * b)), some (vi g), none, none] [] σ1 := by
    intro d
    induction d with
    | zero =>
      intro t ht σ1 f1 f2 g hg
      refine q_iload d_Ch_leaveRest_34 rfl ?_
      refine q_if_lt (tgt := 183) (by omega) d_Ch_leaveRest_36 (by decide) (fun c36 => ?_) (fun c36 => absurd c36 (by omega))
      refine q_aload d_Ch_leaveRest_183 rfl ?_
      refine q_aload_n d_Ch_leaveRest_185 rfl ?_
      refine q_gi hv.1 pc_Py 1 (by decide) w_fl_Ch_35 rfl (by rfl) d_Ch_leaveRest_186 ?_
      refine q_topi (show _ = (b : Int) from (congrFun (f2 _ (by omega) (by omega) (by omega) (by omega) (by omega) (by omega) (by omega)) 1).trans hdb) ?_
      refine q_iconst d_Ch_leaveRest_189 rfl ?_
      refine q_isub d_Ch_leaveRest_190 ?_
      refine q_topi (show (b : Int) - 1 = (b : Int) - 1 from rfl) ?_
      refine q_callV (As := [vi ((b : Int) - 1)]) (q_Py_lower l K (F := b) (P := lw U V a b (a - b + 1)) hR (by decide) rfl (by omega) (fun k hk => by have := f1 k (by omega); rw [show t = a - b + 1 by omega] at this; exact this)) w_cd_Py_lower w_ini_Py w_ml_Ch_100 w_im_Py_lower w_se_Py_lower hR.1 rfl hd_Py_lower rfl (Nat.le_of_ble_eq_true rfl) d_Ch_leaveRest_191 (by decide) (by decide) (fun v σ2 hp => ?_)
      obtain ⟨rfl, k1, k2⟩ := hp
      exact q_vret rfl (⟨rfl, k1, fun k hk => by have := (f1 k (by omega)).mv (σ' := σ2) (k2 _ (by omega)) (k2 _ (by omega)); rw [show t = a - b + 1 by omega] at this; exact this, fun q h1 h2 h3 h4 h5 h6 h7 => by rw [k2 q (by omega)]; exact f2 q h1 h2 h3 h4 h5 h6 h7⟩) d_Ch_leaveRest_194
    | succ d ih =>
      intro t ht σ1 f1 f2 g hg
      have inner : ∀ (c : Nat), c ≤ a - t + 1 → ∀ (σ2 : q_S), (∀ i, i < c → nV σ2 (B + 37 + 2 + 2 * i) 160 (lw U V a b t i)) → (∀ i, c ≤ i → i ≤ a - t → nV σ2 (B + 37 + 2 + 2 * i) 160 (lw U V a b (t + 1) i)) → nV σ2 (B + 9) 160 (lw U V a b t (a - t)) → (∀ q, q ≠ B + 5 → q ≠ B + 6 → q ≠ B + 9 → q ≠ B + 10 → q ≠ B + 11 → q ≠ B + 12 → (q < B + 37 ∨ B + 71 ≤ q) → σ2 q = σ q) → ∀ s : Int, s = (c : Int) - 1 → q_T l K L R_Ch b_Ch_leaveRest 9 none 3 (fun r σ' => r = none ∧ σ' (B + 37) 1 = (top (lw U V a b (a - b + 1)) b : Int) - 1 ∧ (∀ k, k < b → nV σ' (B + 37 + 2 + 2 * k) 160 (lw U V a b (a - b + 1) k)) ∧ ∀ q, q ≠ B + 5 → q ≠ B + 6 → q ≠ B + 9 → q ≠ B + 10 → q ≠ B + 11 → q ≠ B + 12 → (q < B + 37 ∨ B + 71 ≤ q) → σ' q = σ q) 72 [some (.ref ch), some (.ref u), some (.ref v), some (.ref B), some (.ref (B + 37)), some (.ref (v + 2 + 2 * b)), some (vi g), some (.ref (B + 9)), some (vi s)] [] σ2 := by
        intro c
        induction c with
        | zero =>
          intro hc σ2 j1 j2 j3 j4 s hs
          refine q_iload d_Ch_leaveRest_72 rfl ?_
          refine q_if_lt (tgt := 177) (by omega) d_Ch_leaveRest_74 (by decide) (fun c74 => ?_) (fun c74 => absurd c74 (by omega))
          refine q_iinc_6 d_Ch_leaveRest_177 (by decide) rfl ?_
          refine q_goto (tgt := 34) d_Ch_leaveRest_180 (by decide) ?_
          refine q_drop_8 ?_
          refine q_drop_7 ?_
          exact ih (t + 1) (by omega) σ2 (fun i hi => j2 i (by omega) (by omega)) j4 _ (by omega)
        | succ c ihc =>
          intro hc σ2 j1 j2 j3 j4 s hs
          have tail : ∀ (σ6 : q_S) (y : Int), nV σ6 (B + 5) 160 y → y * (V b).sign = lw U V a b (t + 1) c → (y.natAbs : Int) < 2147483648 ^ 160 → (∀ q, q ≠ B + 5 → q ≠ B + 5 + 1 → q ≠ B + 11 → q ≠ B + 11 + 1 → σ6 q = σ2 q) → q_T l K L R_Ch b_Ch_leaveRest 9 none 3 (fun r σ' => r = none ∧ σ' (B + 37) 1 = (top (lw U V a b (a - b + 1)) b : Int) - 1 ∧ (∀ k, k < b → nV σ' (B + 37 + 2 + 2 * k) 160 (lw U V a b (a - b + 1) k)) ∧ ∀ q, q ≠ B + 5 → q ≠ B + 6 → q ≠ B + 9 → q ≠ B + 10 → q ≠ B + 11 → q ≠ B + 12 → (q < B + 37 ∨ B + 71 ≤ q) → σ' q = σ q) 132 [some (.ref ch), some (.ref u), some (.ref v), some (.ref B), some (.ref (B + 37)), some (.ref (v + 2 + 2 * b)), some (vi g), some (.ref (B + 9)), some (vi s)] [] σ6 := by
            intro σ6 y m1 m2 m3 m4
            refine q_aload d_Ch_leaveRest_132 rfl ?_
            refine q_gr hR.1 pc_Py 0 (by decide) w_fl_Ch_65 rfl (by rfl) d_Ch_leaveRest_134 ?_
            refine q_iload d_Ch_leaveRest_137 rfl ?_
            refine q_aal (c) 4 (b := B + 37 + 2 + 2 * c) rfl hrg (by omega) (by omega) (by omega) (hrg2 _ (by omega)) d_Ch_leaveRest_139 ?_
            refine q_aload_n d_Ch_leaveRest_140 rfl ?_
            refine q_gr hb0 pc_Be 2 (by decide) w_fl_Ch_86 rfl (by rfl) d_Ch_leaveRest_141 ?_
            refine q_callV (As := [.ref (B + 5)]) (c_Nu_copy l K (hR.2.2.1 c (by omega)) hT (by omega) m1 m3) w_cd_Nu_copy w_ini_Nu w_ml_Ch_69 w_im_Nu_copy w_se_Nu_copy (hR.2.2.1 c (by omega)).1.1 rfl hd_Nu_copy rfl (Nat.le_of_ble_eq_true rfl) d_Ch_leaveRest_144 (by decide) (by decide) (fun v σ7 hp => ?_)
            obtain ⟨rfl, k7, k8⟩ := hp
            refine q_aload d_Ch_leaveRest_147 rfl ?_
            refine q_gr hR.1 pc_Py 0 (by decide) w_fl_Ch_65 rfl (by rfl) d_Ch_leaveRest_149 ?_
            refine q_iload d_Ch_leaveRest_152 rfl ?_
            refine q_aal (c) 4 (b := B + 37 + 2 + 2 * c) rfl hrg (by omega) (by omega) (by omega) (hrg2 _ (by omega)) d_Ch_leaveRest_154 ?_
            refine q_aload_n d_Ch_leaveRest_155 rfl ?_
            refine q_gr hb0 pc_Be 2 (by decide) w_fl_Ch_86 rfl (by rfl) d_Ch_leaveRest_156 ?_
            refine q_gi hT.1.1 pc_Nu 2 (by decide) w_fl_Ch_72 rfl (by rfl) d_Ch_leaveRest_159 ?_
            refine q_topi (show _ = y.sign from (congrFun (k8 _ (by omega) (by omega)) 2).trans m1.sgn) ?_
            refine q_aload d_Ch_leaveRest_162 rfl ?_
            refine q_gi (hv.2.2.1 b hbN).1.1 pc_Nu 2 (by decide) w_fl_Ch_72 rfl (by rfl) d_Ch_leaveRest_164 ?_
            refine q_topi (show _ = (V b).sign from (congrFun ((k8 _ (by omega) (by omega)).trans ((m4 _ (by omega) (by omega) (by omega) (by omega)).trans (j4 _ (by omega) (by omega) (by omega) (by omega) (by omega) (by omega) (by omega)))) 2).trans (hV b (Nat.le_refl _)).sgn) ?_
            refine q_imul d_Ch_leaveRest_167 ?_
            refine q_pi (hR.2.2.1 c (by omega)).1.1 pc_Nu 2 (by decide) w_fl_Ch_72 rfl rfl rfl rfl (by rfl) d_Ch_leaveRest_168 ?_
            refine q_iinc_8 d_Ch_leaveRest_171 (by decide) rfl ?_
            refine q_goto (tgt := 72) d_Ch_leaveRest_174 (by decide) ?_
            have kk := nV_mulsg k7 hsg
            rw [m2] at kk
            refine ihc (by omega) _ (fun i hi => (j1 i (by omega)).mv (by rw [q_up_a _ _ (by omega), k8 _ (by omega) (by omega)]; exact m4 _ (by omega) (by omega) (by omega) (by omega)) (by rw [q_up_a _ _ (by omega), k8 _ (by omega) (by omega)]; exact m4 _ (by omega) (by omega) (by omega) (by omega))) (fun i h1 h2 => ?_) (j3.mv (by rw [q_up_a _ _ (by omega), k8 _ (by omega) (by omega)]; exact m4 _ (by omega) (by omega) (by omega) (by omega)) (by rw [q_up_a _ _ (by omega), k8 _ (by omega) (by omega)]; exact m4 _ (by omega) (by omega) (by omega) (by omega))) (fun q h1 h2 h3 h4 h5 h6 h7 => ?_) _ (by omega)
            · exact if e : i = c then by subst e; exact kk else (j2 i (by omega) h2).mv (by rw [q_up_a _ _ (by omega), k8 _ (by omega) (by omega)]; exact m4 _ (by omega) (by omega) (by omega) (by omega)) (by rw [q_up_a _ _ (by omega), k8 _ (by omega) (by omega)]; exact m4 _ (by omega) (by omega) (by omega) (by omega))
            · rw [q_up_a _ _ (by omega), k8 q (by omega) (by omega), m4 q h1 h2 h5 h6]; exact j4 q h1 h2 h3 h4 h5 h6 h7
          refine q_iload d_Ch_leaveRest_72 rfl ?_
          refine q_if_lt (tgt := 177) (by omega) d_Ch_leaveRest_74 (by decide) (fun c74 => absurd c74 (by omega)) (fun c74 => ?_)
          refine q_aload_n d_Ch_leaveRest_77 rfl ?_
          refine q_gr hb0 pc_Be 2 (by decide) w_fl_Ch_86 rfl (by rfl) d_Ch_leaveRest_78 ?_
          refine q_aload d_Ch_leaveRest_81 rfl ?_
          refine q_gr hR.1 pc_Py 0 (by decide) w_fl_Ch_65 rfl (by rfl) d_Ch_leaveRest_83 ?_
          refine q_iload d_Ch_leaveRest_86 rfl ?_
          refine q_aal (c) 4 (b := B + 37 + 2 + 2 * c) rfl hrg (by omega) (by omega) (by omega) (hrg2 _ (by omega)) d_Ch_leaveRest_88 ?_
          refine q_aload d_Ch_leaveRest_89 rfl ?_
          refine q_callV (As := [.ref (B + 37 + 2 + 2 * c), .ref (v + 2 + 2 * b)]) (c_Nu_setProduct l K (u := z) (v := vw) hT (hR.2.2.1 c (by omega)) (hv.2.2.1 b hbN) (by omega) (by omega) (j1 c (by omega)) ((hV b (Nat.le_refl _)).mv (j4 _ (by omega) (by omega) (by omega) (by omega) (by omega) (by omega) (by omega)) (j4 _ (by omega) (by omega) (by omega) (by omega) (by omega) (by omega) (by omega))) (hW t (by omega) c (by omega)) (hVb b (Nat.le_refl _)) (by omega)) w_cd_Nu_setProduct w_ini_Nu w_ml_Ch_89 w_im_Nu_setProduct w_se_Nu_setProduct hT.1.1 rfl hd_Nu_setProduct rfl (Nat.le_of_ble_eq_true rfl) d_Ch_leaveRest_91 (by decide) (by decide) (fun v σ3 hp => ?_)
          obtain ⟨rfl, k1, k2⟩ := hp
          refine q_iload d_Ch_leaveRest_94 rfl ?_
          refine q_iload d_Ch_leaveRest_96 rfl ?_
          refine q_icmp_lt (tgt := 132) (by omega) (by omega) d_Ch_leaveRest_98 (by decide) (fun hcg => ?_) (fun hcg => ?_)
          · refine tail σ3 _ k1 ?_ (by have := mul_lt_pow (hW t (by omega) c (by omega)) (hVb b (Nat.le_refl _)); have := ip_le (B := 2147483648) (by decide) (show z + vw ≤ 160 by omega); omega) (fun q h1 h2 h3 h4 => k2 q h1 h2)
            rw [lw_s, show shP V (a - t - b) c = 0 by unfold shP; rw [if_pos (by omega)], Int.mul_zero, Int.sub_zero]
          · refine q_aload_n d_Ch_leaveRest_101 rfl ?_
            refine q_gr hb0 pc_Be 5 (by decide) w_fl_Ch_93 rfl (by rfl) d_Ch_leaveRest_102 ?_
            refine q_aload d_Ch_leaveRest_105 rfl ?_
            refine q_aload_n d_Ch_leaveRest_107 rfl ?_
            refine q_gr hv.1 pc_Py 0 (by decide) w_fl_Ch_65 rfl (by rfl) d_Ch_leaveRest_108 ?_
            refine q_iload d_Ch_leaveRest_111 rfl ?_
            refine q_iload d_Ch_leaveRest_113 rfl ?_
            refine q_isub d_Ch_leaveRest_115 ?_
            refine q_aal (c - (a - t - b)) 4 (b := v + 2 + 2 * (c - (a - t - b))) rfl hvg (by omega) (by omega) (by omega) (hvg2 _ (by omega)) d_Ch_leaveRest_116 ?_
            refine q_callV (As := [.ref (B + 9), .ref (v + 2 + 2 * (c - (a - t - b)))]) (c_Nu_setProduct l K (u := z) (v := vw) hUp hLo (hv.2.2.1 (c - (a - t - b)) (by omega)) (by omega) (by omega) (j3.mv (k2 _ (by omega) (by omega)) (k2 _ (by omega) (by omega))) (((hV (c - (a - t - b)) (by omega)).mv (j4 _ (by omega) (by omega) (by omega) (by omega) (by omega) (by omega) (by omega)) (j4 _ (by omega) (by omega) (by omega) (by omega) (by omega) (by omega) (by omega))).mv (k2 _ (by omega) (by omega)) (k2 _ (by omega) (by omega))) (hW t (by omega) (a - t) (by omega)) (hVb (c - (a - t - b)) (by omega)) (by omega)) w_cd_Nu_setProduct w_ini_Nu w_ml_Ch_89 w_im_Nu_setProduct w_se_Nu_setProduct hUp.1.1 rfl hd_Nu_setProduct rfl (Nat.le_of_ble_eq_true rfl) d_Ch_leaveRest_117 (by decide) (by decide) (fun v σ4 hp => ?_)
            obtain ⟨rfl, k3, k4⟩ := hp
            refine q_aload_n d_Ch_leaveRest_120 rfl ?_
            refine q_gr hb0 pc_Be 2 (by decide) w_fl_Ch_86 rfl (by rfl) d_Ch_leaveRest_121 ?_
            refine q_aload_n d_Ch_leaveRest_124 rfl ?_
            refine q_gr hb0 pc_Be 5 (by decide) w_fl_Ch_93 rfl (by rfl) d_Ch_leaveRest_125 ?_
            refine q_iconst d_Ch_leaveRest_128 rfl ?_
            refine q_callV (As := [.ref (B + 11), vi (-1)]) (c_Nu_add l K hT hUp (by omega) (k1.mv (k4 _ (by omega) (by omega)) (k4 _ (by omega) (by omega))) k3 (Or.inr rfl) (by have := mul_lt_pow (hW t (by omega) c (by omega)) (hVb b (Nat.le_refl _)); have := ip_le (B := 2147483648) (by decide) (show z + vw ≤ 160 - 1 by omega); omega) (by have := mul_lt_pow (hW t (by omega) (a - t) (by omega)) (hVb (c - (a - t - b)) (by omega)); have := ip_le (B := 2147483648) (by decide) (show z + vw ≤ 160 - 1 by omega); omega)) w_cd_Nu_add w_ini_Nu w_ml_Ch_96 w_im_Nu_add w_se_Nu_add hT.1.1 rfl hd_Nu_add rfl (Nat.le_of_ble_eq_true rfl) d_Ch_leaveRest_129 (by decide) (by decide) (fun v σ5 hp => ?_)
            obtain ⟨rfl, k5, k6⟩ := hp
            refine tail σ5 _ k5 ?_ ?_ (fun q h1 h2 h3 h4 => by rw [k6 q h1 h2, k4 q h3 h4, k2 q h1 h2])
            · rw [lw_s, show shP V (a - t - b) c = V (c - (a - t - b)) by unfold shP; rw [if_neg (by omega)]]
              rw [Int.neg_mul, Int.one_mul, Int.sub_eq_add_neg]
            · have e1 := mul_lt_pow (hW t (by omega) c (by omega)) (hVb b (Nat.le_refl _))
              have e2 := mul_lt_pow (hW t (by omega) (a - t) (by omega)) (hVb (c - (a - t - b)) (by omega))
              have e3 := ip_le (B := 2147483648) (by decide) (show z + vw ≤ 159 by omega)
              have e4 : (2147483648 : Int) ^ 160 = 2147483648 ^ 159 * 2147483648 := Int.pow_succ _ _
              generalize (2147483648 : Int) ^ 160 = E160 at *
              generalize (2147483648 : Int) ^ 159 = E159 at *
              generalize (2147483648 : Int) ^ (z + vw) = E2 at *
              have e6 := Int.natAbs_add_le (lw U V a b t c * V b) (-1 * (lw U V a b t (a - t) * V (c - (a - t - b))))
              rw [Int.neg_mul, Int.one_mul, Int.natAbs_neg] at e6
              rw [Int.neg_mul, Int.one_mul]
              omega
      refine q_iload d_Ch_leaveRest_34 rfl ?_
      refine q_if_lt (tgt := 183) (by omega) d_Ch_leaveRest_36 (by decide) (fun c36 => absurd c36 (by omega)) (fun c36 => ?_)
      refine q_aload_n d_Ch_leaveRest_39 rfl ?_
      refine q_gr hb0 pc_Be 4 (by decide) w_fl_Ch_83 rfl (by rfl) d_Ch_leaveRest_40 ?_
      refine q_ast_7 d_Ch_leaveRest_43 (by decide) rfl ?_
      refine q_aload d_Ch_leaveRest_45 rfl ?_
      refine q_aload d_Ch_leaveRest_47 rfl ?_
      refine q_gr hR.1 pc_Py 0 (by decide) w_fl_Ch_65 rfl (by rfl) d_Ch_leaveRest_49 ?_
      refine q_iload d_Ch_leaveRest_52 rfl ?_
      refine q_aload_n d_Ch_leaveRest_54 rfl ?_
      refine q_gi hv.1 pc_Py 1 (by decide) w_fl_Ch_35 rfl (by rfl) d_Ch_leaveRest_55 ?_
      refine q_topi (show _ = (b : Int) from (congrFun (f2 _ (by omega) (by omega) (by omega) (by omega) (by omega) (by omega) (by omega)) 1).trans hdb) ?_
      refine q_iadd d_Ch_leaveRest_58 ?_
      refine q_aal (a - t) 4 (b := B + 37 + 2 + 2 * (a - t)) rfl hrg (by omega) (by omega) (by omega) (hrg2 _ (by omega)) d_Ch_leaveRest_59 ?_
      refine q_callV (As := [.ref (B + 37 + 2 + 2 * (a - t))]) (c_Nu_copy l K hLo (hR.2.2.1 (a - t) (by omega)) (by omega) (f1 (a - t) (Nat.le_refl _)) (by have := hW t (by omega) (a - t) (by omega); have := ip_le (B := 2147483648) (by decide) (show z ≤ 160 by omega); omega)) w_cd_Nu_copy w_ini_Nu w_ml_Ch_69 w_im_Nu_copy w_se_Nu_copy hLo.1.1 rfl hd_Nu_copy rfl (Nat.le_of_ble_eq_true rfl) d_Ch_leaveRest_60 (by decide) (by decide) (fun v σ2 hp => ?_)
      obtain ⟨rfl, k1, k2⟩ := hp
      refine q_iload d_Ch_leaveRest_63 rfl ?_
      refine q_aload_n d_Ch_leaveRest_65 rfl ?_
      refine q_gi hv.1 pc_Py 1 (by decide) w_fl_Ch_35 rfl (by rfl) d_Ch_leaveRest_66 ?_
      refine q_topi (show _ = (b : Int) from (congrFun ((k2 _ (by omega) (by omega)).trans (f2 _ (by omega) (by omega) (by omega) (by omega) (by omega) (by omega) (by omega))) 1).trans hdb) ?_
      refine q_iadd d_Ch_leaveRest_69 ?_
      refine q_ist_8 d_Ch_leaveRest_70 (by decide) rfl ?_
      exact inner (a - t + 1) (by omega) σ2 (fun i hi => (f1 i (by omega)).mv (k2 _ (by omega) (by omega)) (k2 _ (by omega) (by omega))) (fun i h1 h2 => by omega) k1 (fun q h1 h2 h3 h4 h5 h6 h7 => by rw [k2 q (by omega) (by omega)]; exact f2 q h1 h2 h3 h4 h5 h6 h7) _ (by omega)
  refine q_aload_n d_Ch_leaveRest_0 rfl ?_
  refine q_gr hb0 pc_Be 14 (by decide) w_fl_Ch_57 rfl (by rfl) d_Ch_leaveRest_1 ?_
  refine q_ast_4 d_Ch_leaveRest_4 (by decide) rfl ?_
  refine q_aload d_Ch_leaveRest_6 rfl ?_
  refine q_aload_n d_Ch_leaveRest_8 rfl ?_
  refine q_callV (As := [.ref u]) (c_Py_copy l K (n := a + 1) (P := U) hR hu (by decide) (by omega) (by omega) (by omega) (by rw [hda]; omega) (fun k hk => hU k (by omega)) (fun k hk => by have := hW 0 (by omega) k (by omega); have := ip_le (B := 2147483648) (by decide) (show z ≤ 160 by omega); simp only [lw] at *; omega)) w_cd_Py_copy w_ini_Py w_ml_Ch_28 w_im_Py_copy w_se_Py_copy hR.1 rfl hd_Py_copy rfl (Nat.le_of_ble_eq_true rfl) d_Ch_leaveRest_9 (by decide) (by decide) (fun v σ1 hp => ?_)
  obtain ⟨rfl, k1, k2, k3⟩ := hp
  refine q_aload_n d_Ch_leaveRest_12 rfl ?_
  refine q_gr hv.1 pc_Py 0 (by decide) w_fl_Ch_65 rfl (by rfl) d_Ch_leaveRest_13 ?_
  refine q_aload_n d_Ch_leaveRest_16 rfl ?_
  refine q_gi hv.1 pc_Py 1 (by decide) w_fl_Ch_35 rfl (by rfl) d_Ch_leaveRest_17 ?_
  refine q_topi (show _ = (b : Int) from (congrFun (k3 _ (by omega)) 1).trans hdb) ?_
  refine q_aal (b) 4 (b := v + 2 + 2 * b) rfl hvg (by omega) (by omega) (by omega) (hvg2 _ hbN) d_Ch_leaveRest_20 ?_
  refine q_ast_5 d_Ch_leaveRest_21 (by decide) rfl ?_
  refine q_aload_n d_Ch_leaveRest_23 rfl ?_
  refine q_gi hu.1 pc_Py 1 (by decide) w_fl_Ch_35 rfl (by rfl) d_Ch_leaveRest_24 ?_
  refine q_topi (show _ = (a : Int) from (congrFun (k3 _ (by omega)) 1).trans hda) ?_
  refine q_aload_n d_Ch_leaveRest_27 rfl ?_
  refine q_gi hv.1 pc_Py 1 (by decide) w_fl_Ch_35 rfl (by rfl) d_Ch_leaveRest_28 ?_
  refine q_topi (show _ = (b : Int) from (congrFun (k3 _ (by omega)) 1).trans hdb) ?_
  refine q_isub d_Ch_leaveRest_31 ?_
  refine q_ist_6 d_Ch_leaveRest_32 (by decide) rfl ?_
  exact outer (a - b + 1) 0 (by omega) σ1 (fun k hk => k2 k (by omega)) (fun q h1 h2 h3 h4 h5 h6 h7 => k3 q (by omega)) _ (by omega)
