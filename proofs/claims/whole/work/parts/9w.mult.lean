/-! QUERY: multiply -/
theorem qs_0 {A D : Nat → Int} {m k : Nat} (hD : ∀ c, m < c → D c = 0) : ∀ t, t + m ≤ k → qs A D t k = 0
  | 0, _ => rfl
  | t + 1, h => by
    have h1 := qs_0 (A := A) (m := m) (k := k) hD t (by omega)
    show qs A D t k + A t * shP D t k = 0
    rw [h1]
    unfold shP
    rw [if_neg (by omega), hD _ (by omega), Int.mul_zero]
    rfl
theorem qs_top {A D : Nat → Int} {k : Nat} : ∀ t, k + 1 ≤ t → qs A D t k = qs A D (k + 1) k
  | 0, h => by omega
  | t + 1, h => by
    rcases Nat.eq_or_lt_of_le h with h1 | h1
    · rw [← h1]
    · rw [← qs_top t (by omega)]
      show qs A D t k + A t * shP D t k = _
      unfold shP
      rw [if_pos (by omega), Int.mul_zero, Int.add_zero]
set_option maxHeartbeats 4000000 in
set_option maxRecDepth 100000 in
theorem c_Qu_multiply (l : Launch) (K : pw_K) {L : q_L} {σ : q_S} {qa pa pd B m n Na Nd u v : Nat} {A D : Nat → Int} (hqL : quL L qa) (hbL : beL L B) (hpa : pL L pa Na 48) (hpd : pL L pd Nd 48) (hdj : qa + 165 ≤ B ∨ B + 91 ≤ qa) (hda : pa + 2 + 2 * Na ≤ qa ∨ qa + 165 ≤ pa) (hdd : pd + 2 + 2 * Nd ≤ qa ∨ qa + 145 ≤ pd) (hba : pa + 2 + 2 * Na ≤ B ∨ B + 91 ≤ pa) (hbd : pd + 2 + 2 * Nd ≤ B ∨ B + 91 ≤ pd) (hm : m < Na) (hn : n < Nd) (hmn : m + n < 16) (hdeg1 : σ pa 1 = m) (hdeg2 : σ pd 1 = n) (hA : ∀ k, k ≤ m → nV σ (pa + 2 + 2 * k) 48 (A k)) (hD : ∀ k, k ≤ n → nV σ (pd + 2 + 2 * k) 48 (D k)) (hz : ∀ c, n < c → D c = 0) (hAb : ∀ k, k ≤ m → ((A k).natAbs : Int) < 2147483648 ^ u) (hDb : ∀ k, k ≤ n → ((D k).natAbs : Int) < 2147483648 ^ v) (huv : u + v ≤ 47) (hqb : ∀ t k, ((qs A D t k).natAbs : Int) < 2147483648 ^ 47) : q_C l K L y_Qu_multiply b_Qu_multiply 8 none 3 [.ref qa, .ref pa, .ref pd, .ref B] σ (fun r σ' => r = none ∧ σ' (qa + 3) 1 = (top (qs A D (m + 1)) (m + n + 1) : Int) - 1 ∧ (∀ k, k ≤ m + n → nV σ' (qa + 3 + 2 + 2 * k) 48 (qs A D (m + 1) k)) ∧ (∀ q, q ≠ B + 5 → q ≠ B + 6 → (q < qa + 3 ∨ qa + 37 ≤ q) → σ' q = σ q)) := by
  obtain ⟨hq0, hqc, hqt⟩ := hqL
  obtain ⟨hc0, ⟨g, hg1, hg2⟩, hpl⟩ := hqc
  have hp0 : pL L (qa + 3) 16 48 := hpl 0 (by decide)
  obtain ⟨pg, hpg, hpg2⟩ := hp0.2.1
  obtain ⟨ag, hag, hag2⟩ := hpa.2.1
  obtain ⟨dg', hdg, hdg2⟩ := hpd.2.1
  have hNa := hpa.2.2.2
  have hNd := hpd.2.2.2
  have hb0 := hbL.1
  have hT : nL L (B + 5) 160 := hbL.2.1 2 (by decide)
  have hQb : hid _ := hqb
  clear hqb
  have hAb2 : hid _ := hAb
  have hDb2 : hid _ := hDb
  clear hAb hDb
  refine q_start [some (.ref qa), some (.ref pa), some (.ref pd), some (.ref B), none, none, none, none] (by decide) (Nat.le_of_ble_eq_true rfl) (fun q h => h) ?_
  have outer : ∀ (r k : Nat), k + r = m + n + 1 → ∀ (σ1 : q_S), (∀ j, j < k → nV σ1 (qa + 3 + 2 + 2 * j) 48 (qs A D (m + 1) j)) → (∀ q, q ≠ B + 5 → q ≠ B + 6 → (q < qa + 3 ∨ qa + 37 ≤ q) → σ1 q = σ q) → ∀ s : Int, s = k → q_T l K L R_Qu b_Qu_multiply 8 none 3 (fun r σ' => r = none ∧ σ' (qa + 3) 1 = (top (qs A D (m + 1)) (m + n + 1) : Int) - 1 ∧ (∀ k, k ≤ m + n → nV σ' (qa + 3 + 2 + 2 * k) 48 (qs A D (m + 1) k)) ∧ (∀ q, q ≠ B + 5 → q ≠ B + 6 → (q < qa + 3 ∨ qa + 37 ≤ q) → σ' q = σ q)) 37 [some (.ref qa), some (.ref pa), some (.ref pd), some (.ref B), some (.ref (qa + 3)), some (vi ((m + n : Nat) : Int)), some (vi s), none] [] σ1 := by
    intro r
    induction r with
    | zero =>
      intro k hk σ1 f1 f2 s hs
      refine q_iload d_Qu_multiply_37 rfl ?_
      refine q_iload d_Qu_multiply_39 rfl ?_
      refine q_icmp_gt (tgt := 134) (by omega) (by omega) d_Qu_multiply_41 (by decide) (fun c41 => ?_) (fun c41 => absurd c41 (by omega))
      refine q_aload d_Qu_multiply_134 rfl ?_
      refine q_iload d_Qu_multiply_136 rfl ?_
      refine q_callV (As := [vi ((m + n : Nat) : Int)]) (q_Py_lower l K (F := m + n + 1) (P := qs A D (m + 1)) hp0 (by decide) (by omega) (by omega) (fun j hj => f1 j (by omega))) w_cd_Py_lower w_ini_Py w_ml_Qu_116 w_im_Py_lower w_se_Py_lower hp0.1 rfl hd_Py_lower rfl (Nat.le_of_ble_eq_true rfl) d_Qu_multiply_138 (by decide) (by decide) (fun v σ2 hp => ?_)
      obtain ⟨rfl, k1, k2⟩ := hp
      exact q_vret rfl (⟨rfl, k1, fun j hj => (f1 j (by omega)).mv (k2 _ (by omega)) (k2 _ (by omega)), fun q h1 h2 h3 => by rw [k2 q (by omega)]; exact f2 q h1 h2 h3⟩) d_Qu_multiply_141
    | succ r ih =>
      intro k hk σ1 f1 f2 s hs
      have hpk := hp0.2.2.1 k (by omega)
      have inner : ∀ (c t : Nat), t + c = min k m + 1 → k ≤ t + n → ∀ (σ2 : q_S), nV σ2 (qa + 3 + 2 + 2 * k) 48 (qs A D t k) → (∀ j, j < k → nV σ2 (qa + 3 + 2 + 2 * j) 48 (qs A D (m + 1) j)) → (∀ q, q ≠ B + 5 → q ≠ B + 6 → (q < qa + 3 ∨ qa + 37 ≤ q) → σ2 q = σ q) → ∀ s7 : Int, s7 = t → q_T l K L R_Qu b_Qu_multiply 8 none 3 (fun r σ' => r = none ∧ σ' (qa + 3) 1 = (top (qs A D (m + 1)) (m + n + 1) : Int) - 1 ∧ (∀ k, k ≤ m + n → nV σ' (qa + 3 + 2 + 2 * k) 48 (qs A D (m + 1) k)) ∧ (∀ q, q ≠ B + 5 → q ≠ B + 6 → (q < qa + 3 ∨ qa + 37 ≤ q) → σ' q = σ q)) 68 [some (.ref qa), some (.ref pa), some (.ref pd), some (.ref B), some (.ref (qa + 3)), some (vi ((m + n : Nat) : Int)), some (vi s), some (vi s7)] [] σ2 := by
        intro c
        induction c with
        | zero =>
          intro t ht ht2 σ2 j1 j2 j3 s7 hs7
          refine q_iload d_Qu_multiply_68 rfl ?_
          refine q_iload d_Qu_multiply_70 rfl ?_
          refine q_aload_n d_Qu_multiply_72 rfl ?_
          refine q_gi hpa.1 pc_Py 1 (by decide) w_fl_Qu_29 rfl (by rfl) d_Qu_multiply_73 ?_
          refine q_topi (show _ = (m : Int) by rw [j3 _ (by omega) (by omega) (by omega)]; exact hdeg1) ?_
          refine q_mmin (by omega) (by omega) w_ml_Qu_101 d_Qu_multiply_76 (by decide) (Nat.le_of_ble_eq_true rfl) ?_
          refine q_icmp_gt (tgt := 128) (by omega) (by omega) d_Qu_multiply_79 (by decide) (fun c79 => ?_) (fun c79 => absurd c79 (by omega))
          refine q_iinc_6 d_Qu_multiply_128 (by decide) rfl ?_
          refine q_goto (tgt := 37) d_Qu_multiply_131 (by decide) ?_
          refine q_drop_7 ?_
          refine ih (k + 1) (by omega) σ2 (fun j hj => ?_) j3 _ (by omega)
          rcases Nat.lt_or_ge j k with h9 | h9
          · exact j2 j h9
          · obtain rfl : j = k := by omega
            have e1 : qs A D t j = qs A D (m + 1) j := by
              rcases Nat.lt_or_ge m j with h8 | h8
              · rw [show t = m + 1 by omega]
              · rw [show t = j + 1 by omega, qs_top (m + 1) (by omega)]
            rw [← e1]; exact j1
        | succ c ihc =>
          intro t ht ht2 σ2 j1 j2 j3 s7 hs7
          have hat := hpa.2.2.1 t (by omega)
          have hdt := hpd.2.2.1 (k - t) (by omega)
          refine q_iload d_Qu_multiply_68 rfl ?_
          refine q_iload d_Qu_multiply_70 rfl ?_
          refine q_aload_n d_Qu_multiply_72 rfl ?_
          refine q_gi hpa.1 pc_Py 1 (by decide) w_fl_Qu_29 rfl (by rfl) d_Qu_multiply_73 ?_
          refine q_topi (show _ = (m : Int) by rw [j3 _ (by omega) (by omega) (by omega)]; exact hdeg1) ?_
          refine q_mmin (by omega) (by omega) w_ml_Qu_101 d_Qu_multiply_76 (by decide) (Nat.le_of_ble_eq_true rfl) ?_
          refine q_icmp_gt (tgt := 128) (by omega) (by omega) d_Qu_multiply_79 (by decide) (fun c79 => absurd c79 (by omega)) (fun c79 => ?_)
          refine q_aload_n d_Qu_multiply_82 rfl ?_
          refine q_gr hb0 pc_Be 2 (by decide) w_fl_Qu_104 rfl (by rfl) d_Qu_multiply_83 ?_
          refine q_aload_n d_Qu_multiply_86 rfl ?_
          refine q_gr hpa.1 pc_Py 0 (by decide) w_fl_Qu_88 rfl (by rfl) d_Qu_multiply_87 ?_
          refine q_iload d_Qu_multiply_90 rfl ?_
          refine q_aal (t) 4 (b := pa + 2 + 2 * t) rfl hag (by omega) (by omega) (by omega) (hag2 _ (by omega)) d_Qu_multiply_92 ?_
          refine q_aload_n d_Qu_multiply_93 rfl ?_
          refine q_gr hpd.1 pc_Py 0 (by decide) w_fl_Qu_88 rfl (by rfl) d_Qu_multiply_94 ?_
          refine q_iload d_Qu_multiply_97 rfl ?_
          refine q_iload d_Qu_multiply_99 rfl ?_
          refine q_isub d_Qu_multiply_101 ?_
          refine q_topi (show s - s7 = ((k - t : Nat) : Int) by omega) ?_
          refine q_aal (k - t) 4 (b := pd + 2 + 2 * (k - t)) rfl hdg (by omega) (by omega) (by omega) (hdg2 _ (by omega)) d_Qu_multiply_102 ?_
          refine q_callV (As := [.ref (pa + 2 + 2 * t), .ref (pd + 2 + 2 * (k - t))]) (c_Nu_setProduct l K (u := u) (v := v) hT hat hdt (by omega) (by omega) ((hA t (by omega)).mv (j3 _ (by omega) (by omega) (by omega)) (j3 _ (by omega) (by omega) (by omega))) ((hD (k - t) (by omega)).mv (j3 _ (by omega) (by omega) (by omega)) (j3 _ (by omega) (by omega) (by omega))) (hAb2 t (by omega)) (hDb2 (k - t) (by omega)) (by omega)) w_cd_Nu_setProduct w_ini_Nu w_ml_Qu_108 w_im_Nu_setProduct w_se_Nu_setProduct hT.1.1 rfl hd_Nu_setProduct rfl (Nat.le_of_ble_eq_true rfl) d_Qu_multiply_103 (by decide) (by decide) (fun v σ3 hp => ?_)
          obtain ⟨rfl, k1, k2⟩ := hp
          refine q_aload d_Qu_multiply_106 rfl ?_
          refine q_gr hp0.1 pc_Py 0 (by decide) w_fl_Qu_88 rfl (by rfl) d_Qu_multiply_108 ?_
          refine q_iload d_Qu_multiply_111 rfl ?_
          refine q_aal (k) 4 (b := qa + 3 + 2 + 2 * k) rfl hpg (by omega) (by omega) (by omega) (hpg2 _ (by omega)) d_Qu_multiply_113 ?_
          refine q_aload_n d_Qu_multiply_114 rfl ?_
          refine q_gr hb0 pc_Be 2 (by decide) w_fl_Qu_104 rfl (by rfl) d_Qu_multiply_115 ?_
          refine q_iconst d_Qu_multiply_118 rfl ?_
          refine q_callV (As := [.ref (B + 5), vi 1]) (c_Nu_add l K hpk hT (by omega) (j1.mv (k2 _ (by omega) (by omega)) (k2 _ (by omega) (by omega))) k1 (Or.inl rfl) (hQb t k) (lim_up (mul_lt_pow (hAb2 t (by omega)) (hDb2 (k - t) (by omega))) (by omega))) w_cd_Nu_add w_ini_Nu w_ml_Qu_112 w_im_Nu_add w_se_Nu_add hpk.1.1 rfl hd_Nu_add rfl (Nat.le_of_ble_eq_true rfl) d_Qu_multiply_119 (by decide) (by decide) (fun v σ4 hp => ?_)
          obtain ⟨rfl, k3, k4⟩ := hp
          refine q_iinc_7 d_Qu_multiply_122 (by decide) rfl ?_
          refine q_goto (tgt := 68) d_Qu_multiply_125 (by decide) ?_
          refine ihc (t + 1) (by omega) (by omega) σ4 ?_ (fun j hj => ((j2 j hj).mv (k2 _ (by omega) (by omega)) (k2 _ (by omega) (by omega))).mv (k4 _ (by omega) (by omega)) (k4 _ (by omega) (by omega))) (fun q h1 h2 h3 => by rw [k4 q (by omega) (by omega), k2 q h1 (by omega)]; exact j3 q h1 h2 h3) _ (by omega)
          have e1 : qs A D t k + 1 * (A t * D (k - t)) = qs A D (t + 1) k := by
            show _ = qs A D t k + A t * shP D t k
            unfold shP
            rw [if_neg (by omega), Int.one_mul]
          rw [← e1]; exact k3
      refine q_iload d_Qu_multiply_37 rfl ?_
      refine q_iload d_Qu_multiply_39 rfl ?_
      refine q_icmp_gt (tgt := 134) (by omega) (by omega) d_Qu_multiply_41 (by decide) (fun c41 => absurd c41 (by omega)) (fun c41 => ?_)
      refine q_aload d_Qu_multiply_44 rfl ?_
      refine q_gr hp0.1 pc_Py 0 (by decide) w_fl_Qu_88 rfl (by rfl) d_Qu_multiply_46 ?_
      refine q_iload d_Qu_multiply_49 rfl ?_
      refine q_aal (k) 4 (b := qa + 3 + 2 + 2 * k) rfl hpg (by omega) (by omega) (by omega) (hpg2 _ (by omega)) d_Qu_multiply_51 ?_
      refine q_callV (As := []) (c_Nu_clear l K hpk _) w_cd_Nu_clear w_ini_Nu w_ml_Qu_92 w_im_Nu_clear w_se_Nu_clear hpk.1.1 rfl hd_Nu_clear rfl (Nat.le_of_ble_eq_true rfl) d_Qu_multiply_52 (by decide) (by decide) (fun v σ2 hp => ?_)
      obtain ⟨rfl, hσ2⟩ := hp
      have k1 : nV σ2 (qa + 3 + 2 + 2 * k) 48 0 := by rw [hσ2]; exact nV_clear _ _ _
      have k2 : ∀ q, q ≠ qa + 3 + 2 + 2 * k → σ2 q = σ1 q := fun q hq => by rw [hσ2, q_up_a _ _ hq, q_up_a _ _ hq]
      clear hσ2
      refine q_iconst d_Qu_multiply_55 rfl ?_
      refine q_iload d_Qu_multiply_56 rfl ?_
      refine q_aload_n d_Qu_multiply_58 rfl ?_
      refine q_gi hpd.1 pc_Py 1 (by decide) w_fl_Qu_29 rfl (by rfl) d_Qu_multiply_59 ?_
      refine q_topi (show _ = (n : Int) by rw [k2 _ (by omega), f2 _ (by omega) (by omega) (by omega)]; exact hdeg2) ?_
      refine q_isub d_Qu_multiply_62 ?_
      refine q_mmax (by omega) (by omega) w_ml_Qu_95 d_Qu_multiply_63 (by decide) (Nat.le_of_ble_eq_true rfl) ?_
      refine q_ist_7 d_Qu_multiply_66 (by decide) rfl ?_
      refine inner (min k m + 1 - (k - n)) (k - n) (by omega) (by omega) σ2 ?_ (fun j hj => (f1 j hj).mv (k2 _ (by omega)) (k2 _ (by omega))) (fun q h1 h2 h3 => by rw [k2 q (by omega)]; exact f2 q h1 h2 h3) _ (by omega)
      rcases Nat.lt_or_ge n k with h9 | h9
      · rw [qs_0 hz (k - n) (by omega)]; exact k1
      · rw [show k - n = 0 by omega]; exact k1
  refine q_aload_n d_Qu_multiply_0 rfl ?_
  refine q_gr hq0 pc_Qu 0 (by decide) w_fl_Qu_14 rfl (by rfl) d_Qu_multiply_1 ?_
  refine q_gr hc0 pc_Ch 0 (by decide) w_fl_Qu_65 rfl (by rfl) d_Qu_multiply_4 ?_
  refine q_iconst d_Qu_multiply_7 rfl ?_
  refine q_aal (0) 5 (b := qa + 3) rfl hg1 (by omega) (by omega) (by omega) (hg2 0 (by decide)) d_Qu_multiply_8 ?_
  refine q_ast_4 d_Qu_multiply_9 (by decide) rfl ?_
  refine q_aload_n d_Qu_multiply_11 rfl ?_
  refine q_gi hpa.1 pc_Py 1 (by decide) w_fl_Qu_29 rfl (by rfl) d_Qu_multiply_12 ?_
  refine q_topi hdeg1 ?_
  refine q_aload_n d_Qu_multiply_15 rfl ?_
  refine q_gi hpd.1 pc_Py 1 (by decide) w_fl_Qu_29 rfl (by rfl) d_Qu_multiply_16 ?_
  refine q_topi hdeg2 ?_
  refine q_iadd d_Qu_multiply_19 ?_
  refine q_topi (show (m : Int) + n = ((m + n : Nat) : Int) by omega) ?_
  refine q_ist_5 d_Qu_multiply_20 (by decide) rfl ?_
  refine q_iload d_Qu_multiply_22 rfl ?_
  refine q_aload d_Qu_multiply_24 rfl ?_
  refine q_gr hp0.1 pc_Py 0 (by decide) w_fl_Qu_88 rfl (by rfl) d_Qu_multiply_26 ?_
  refine q_len 4 rfl hpg d_Qu_multiply_29 ?_
  refine q_icmp_lt (tgt := 34) (by omega) (by omega) d_Qu_multiply_30 (by decide) (fun c30 => ?_) (fun c30 => absurd c30 (by omega))
  refine q_iconst d_Qu_multiply_34 rfl ?_
  refine q_ist_6 d_Qu_multiply_35 (by decide) rfl ?_
  exact outer (m + n + 1) 0 (by omega) σ (fun j hj => by omega) (fun q _ _ _ => rfl) 0 rfl
