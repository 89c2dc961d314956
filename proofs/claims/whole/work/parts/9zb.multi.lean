/-! QUERY: multiplicity -/
/-- the slope of order j -/
def drv (P : Nat → Int) : Nat → Nat → Int
  | 0 => P
  | j + 1 => dP (drv P j)
theorem drv_z {P : Nat → Int} {n : Nat} (h : ∀ c, n < c → P c = 0) : ∀ j, ∀ c, n < c + j → drv P j c = 0
  | 0, c, hc => h c hc
  | j + 1, c, hc => by
    show ((c : Int) + 1) * drv P j (c + 1) = 0
    rw [drv_z h j (c + 1) (by omega), Int.mul_zero]
theorem drv_n {P : Nat → Int} {n : Nat} (h : P n ≠ 0) : ∀ j, j ≤ n → drv P j (n - j) ≠ 0
  | 0, _ => h
  | j + 1, hj => by
    show (((n - (j + 1) : Nat) : Int) + 1) * drv P j (n - (j + 1) + 1) ≠ 0
    rw [show n - (j + 1) + 1 = n - j by omega]
    exact Int.mul_ne_zero (by omega) (drv_n h j (by omega))
theorem drv_l {P : Nat → Int} {n : Nat} (hn : n ≤ 8) (h : l1 P (n + 1) ≤ 2 ^ 35) : ∀ j, j ≤ n → l1 (drv P j) (n - j + 1) ≤ 2 ^ (35 + 3 * j)
  | 0, _ => h
  | j + 1, hj => by
    have h1 := drv_l hn h j (by omega)
    have h2 := l1_dP8 (Q := drv P j) (m := n - j) (f := 35 + 3 * j) (by omega) h1
    rw [show n - (j + 1) + 1 = n - j by omega, show 35 + 3 * (j + 1) = 35 + 3 * j + 3 by omega]
    exact h2
def okcB (f g n m : Nat) : Bool := Nat.ble (m * f + n * g) 1480 && (Nat.ble (f + (n - m) * (g + 1) + g) 4836 && (List.range (m + 1)).all (fun a => (List.range a).all (fun b => Nat.beq b 0 || Nat.ble ((bt f g n m a + g) + (a - b) * (bt f g n m (a - 1) + 1) + bt f g n m (a - 1)) 4836)))
theorem okcB_ok {f g n m : Nat} (h : okcB f g n m = true) : okc f g n m := by
  unfold okcB at h
  rw [Bool.and_eq_true, Bool.and_eq_true, List.all_eq_true] at h
  refine ⟨Nat.le_of_ble_eq_true h.1, Nat.le_of_ble_eq_true h.2.1, fun a ha b hb h1 => ?_⟩
  have h2 := h.2.2 a (List.mem_range.2 (by omega))
  rw [List.all_eq_true] at h2
  have h3 := h2 b (List.mem_range.2 hb)
  rw [Bool.or_eq_true] at h3
  rcases h3 with h3 | h3
  · have := Nat.eq_of_beq_eq_true h3
    omega
  · exact Nat.le_of_ble_eq_true h3
def sokB (m e b : Nat) : Bool := okcB (fbm m + 3 + b) (fbm m) (m - 1 + e) m && (Nat.ble (b + 3 + 605 * (e - 1)) 4277 && (Nat.ble (b / 31 + 1 + 572 * e / 31 + 1) 159 && (List.range m).all (fun k => Nat.ble ((m - k) * (2 * fbm m + 3 + b) + (e - 1) * fbm m + 3 + 605 * (k - 1)) 4277 && Nat.ble (((m - k) * (2 * fbm m + 3 + b) + (e - 1) * fbm m) / 31 + 1 + 572 * k / 31 + 1) 159)))
theorem sokB_ok {m e b : Nat} (h : sokB m e b = true) : sok m e b := by
  unfold sokB at h
  rw [Bool.and_eq_true, Bool.and_eq_true, Bool.and_eq_true, List.all_eq_true] at h
  refine ⟨okcB_ok h.1, Nat.le_of_ble_eq_true h.2.1, Nat.le_of_ble_eq_true h.2.2.1, fun k hk => ?_⟩
  have h2 := h.2.2.2 k (List.mem_range.2 hk)
  rw [Bool.and_eq_true] at h2
  exact ⟨Nat.le_of_ble_eq_true h2.1, Nat.le_of_ble_eq_true h2.2⟩
theorem sok_mb : ((List.range 9).all fun m => (List.range 9).all fun n => (List.range 9).all fun k => !(Nat.ble 1 m && (Nat.ble 1 k && Nat.ble (m + k) n)) || sokB m (n - k) (35 + 3 * k)) = true := by decide +kernel
theorem sok_m (m : Nat) (h1 : m < 9) (h2 : 1 ≤ m) (n : Nat) (h3 : n < 9) (h4 : m ≤ n) (k : Nat) (h5 : k < 9) (h6 : 1 ≤ k) (h7 : k ≤ n - m) : sok m (n - k) (35 + 3 * k) := by
  have a1 := List.all_eq_true.1 sok_mb m (List.mem_range.2 h1)
  have a2 := List.all_eq_true.1 a1 n (List.mem_range.2 h3)
  have a3 := List.all_eq_true.1 a2 k (List.mem_range.2 h5)
  rw [Bool.or_eq_true] at a3
  rcases a3 with a3 | a3
  · have : (Nat.ble 1 m && (Nat.ble 1 k && Nat.ble (m + k) n)) = true := by
      rw [Bool.and_eq_true, Bool.and_eq_true]
      exact ⟨Nat.ble_eq_true_of_le h2, Nat.ble_eq_true_of_le h6, Nat.ble_eq_true_of_le (by omega)⟩
    rw [this] at a3
    exact absurd a3 (by decide)
  · exact sokB_ok a3
set_option maxHeartbeats 4000000 in
set_option maxRecDepth 100000 in
theorem c_Qu_multiplicity (l : Launch) (K : pw_K) {L : q_L} {σ : q_S} {qa a B i n M : Nat} {P : Nat → Int} {F : Nat → Nat → Int} {d : Nat → Nat} {z lev ls x : Int} (hqL : quL L qa) (hL : heL L a) (hbL : beL L B) (hdj : a + 177 ≤ B) (hqB : qa = B + 91) (hi : i < 8) (hg : gch P n M F d) (hpla : pla (rb (lk F d 0) (cN F d M) B0 i)) (hd1 : 1 ≤ d 0) (hc : cst σ a M F d) (hsh : σ a 6 = (n : Int) - d 0) (hca : cat σ a i F d M z lev ls x) (hdeg : σ (a + 2) 1 = n) (hP : ∀ k, k ≤ n → nV σ (a + 2 + 2 + 2 * k) 48 (P k)) : q_C l K L y_Qu_multiplicity b_Qu_multiplicity 5 (some .int) 7 [.ref qa, .ref a, .ref (a + 153 + 3 * i), .ref B] σ (fun r σ' => (∃ k : Nat, r = some (vi (k : Int)) ∧ 1 ≤ k ∧ k ≤ n - d 0 + 1 ∧ (∀ t, 1 ≤ t → t < k → vz (rb (lk F d 0) (cN F d M) B0 i) (ev (drv P t) (n - t + 1))) ∧ (k ≤ n - d 0 → nz (rb (lk F d 0) (cN F d M) B0 i) (ev (drv P k) (n - k + 1)))) ∧ nV σ' (a + 153 + 3 * i + 1) 48 z ∧ (∀ q, (q ≤ B ∨ B + 91 ≤ q) → (q ≤ qa ∨ qa + 165 ≤ q) → q ≠ a + 153 + 3 * i + 1 → q ≠ a + 153 + 3 * i + 2 → σ' q = σ q)) := by
  have hqL2 := hqL
  have hLL := hL
  obtain ⟨hq0, hqc, hqt⟩ := hqL
  obtain ⟨hH0, -, hps, -, -, -⟩ := hL
  have hgg := hg
  obtain ⟨g1, g2, g3, g4, -⟩ := hgg
  have hcn := hg.cnt
  have b0 : l1 P (n + 1) ≤ 2 ^ 35 := by
    have h1 := l1_le (n := n + 1) (fun k _ => g4 k)
    have h2 : (n + 1) * 2147483648 ≤ 9 * 2147483648 := Nat.mul_le_mul_right _ (by omega)
    have : (2 : Nat) ^ 35 = 34359738368 := by decide
    omega
  have b0 : hid _ := b0
  have bj : hid (∀ j, j ≤ n → l1 (drv P j) (n - j + 1) ≤ 2 ^ (35 + 3 * j)) := fun j hj => drv_l g3 b0 j hj
  have bc : hid (∀ j, j ≤ n → ∀ c, ((drv P j c).natAbs : Int) < 2147483648 ^ 47) := fun j hj c => lim_up (lim_ofI (l1_all (fun c hc => drv_z g1 j c (by omega)) (bj j hj) c)) (by omega)
  refine q_start [some (.ref qa), some (.ref a), some (.ref (a + 153 + 3 * i)), some (.ref B), none] (by decide) (Nat.le_of_ble_eq_true rfl) (fun q h => h) ?_
  have loop : ∀ (r j : Nat), j + r = n - d 0 → ∀ (σ1 : q_S), σ1 (qa + 145) 1 = ((n - j : Nat) : Int) → (∀ k, k ≤ n - j → nV σ1 (qa + 145 + 2 + 2 * k) 48 (drv P j k)) → nV σ1 (a + 153 + 3 * i + 1) 48 z → (∀ q, (q ≤ B ∨ B + 91 ≤ q) → (q ≤ qa ∨ qa + 165 ≤ q) → q ≠ a + 153 + 3 * i + 1 → q ≠ a + 153 + 3 * i + 2 → σ1 q = σ q) → hid (∀ t, 1 ≤ t → t < j + 1 → vz (rb (lk F d 0) (cN F d M) B0 i) (ev (drv P t) (n - t + 1))) → ∀ s : Int, s = (j : Int) + 1 → q_T l K L R_Qu b_Qu_multiplicity 5 (some .int) 7 (fun r σ' => (∃ k : Nat, r = some (vi (k : Int)) ∧ 1 ≤ k ∧ k ≤ n - d 0 + 1 ∧ (∀ t, 1 ≤ t → t < k → vz (rb (lk F d 0) (cN F d M) B0 i) (ev (drv P t) (n - t + 1))) ∧ (k ≤ n - d 0 → nz (rb (lk F d 0) (cN F d M) B0 i) (ev (drv P k) (n - k + 1)))) ∧ nV σ' (a + 153 + 3 * i + 1) 48 z ∧ (∀ q, (q ≤ B ∨ B + 91 ≤ q) → (q ≤ qa ∨ qa + 165 ≤ q) → q ≠ a + 153 + 3 * i + 1 → q ≠ a + 153 + 3 * i + 2 → σ' q = σ q)) 14 [some (.ref qa), some (.ref a), some (.ref (a + 153 + 3 * i)), some (.ref B), some (vi s)] [] σ1 := by
    intro r
    induction r with
    | zero =>
      intro j hj σ1 f1 f2 f3 f4 f5 s hs
      have hs1 : σ1 a 6 = (n : Int) - d 0 := by rw [f4 _ (by omega) (by omega) (by omega) (by omega)]; exact hsh
      refine q_iload d_Qu_multiplicity_14 rfl ?_
      refine q_aload_n d_Qu_multiplicity_16 rfl ?_
      refine q_gi hH0 pc_He 6 (by decide) w_fl_Qu_122 rfl (by rfl) d_Qu_multiplicity_17 ?_
      refine q_topi hs1 ?_
      refine q_icmp_gt (tgt := 53) (by omega) (by omega) d_Qu_multiplicity_20 (by decide) (fun c20 => ?_) (fun c20 => absurd c20 (by omega))
      refine q_aload_n d_Qu_multiplicity_53 rfl ?_
      refine q_gi hH0 pc_He 6 (by decide) w_fl_Qu_122 rfl (by rfl) d_Qu_multiplicity_54 ?_
      refine q_topi hs1 ?_
      refine q_iconst d_Qu_multiplicity_57 rfl ?_
      refine q_iadd d_Qu_multiplicity_58 ?_
      refine q_topi (show (n : Int) - d 0 + 1 = ((n - d 0 + 1 : Nat) : Int) by omega) ?_
      exact q_iret rfl (⟨⟨n - d 0 + 1, rfl, by omega, Nat.le_refl _, fun t h1 h2 => f5 t h1 (by omega), fun h1 => by omega⟩, f3, f4⟩) d_Qu_multiplicity_59
    | succ r ih =>
      intro j hj σ1 f1 f2 f3 f4 f5 s hs
      have hs1 : σ1 a 6 = (n : Int) - d 0 := by rw [f4 _ (by omega) (by omega) (by omega) (by omega)]; exact hsh
      obtain ⟨d1, d2, d3, d4, d5, d6, d7, d8, d9⟩ := hca
      have hz0 : hid (zin z lev) := d9
      clear d9
      have hmc : ∀ k, drv P j (k + 1) * ((k : Int) + 1) = drv P (j + 1) k := fun k => Int.mul_comm _ _
      have hfe : (fun k => drv P j (k + 1) * ((k : Int) + 1)) = drv P (j + 1) := funext hmc
      refine q_iload d_Qu_multiplicity_14 rfl ?_
      refine q_aload_n d_Qu_multiplicity_16 rfl ?_
      refine q_gi hH0 pc_He 6 (by decide) w_fl_Qu_122 rfl (by rfl) d_Qu_multiplicity_17 ?_
      refine q_topi hs1 ?_
      refine q_icmp_gt (tgt := 53) (by omega) (by omega) d_Qu_multiplicity_20 (by decide) (fun c20 => absurd c20 (by omega)) (fun c20 => ?_)
      refine q_aload_n d_Qu_multiplicity_23 rfl ?_
      refine q_gr hq0 pc_Qu 1 (by decide) w_fl_Qu_25 rfl (by rfl) d_Qu_multiplicity_24 ?_
      refine q_callV (As := []) (c_Py_derive l K (n := n - j + 1) (P := drv P j) hqt (by omega) (by omega) (by decide) (by rw [f1]; omega) (fun k hk => f2 k (by omega)) (fun k _ => bc j (by omega) k)) w_cd_Py_derive w_ini_Py w_ml_Qu_125 w_im_Py_derive w_se_Py_derive hqt.1 rfl hd_Py_derive rfl (Nat.le_of_ble_eq_true rfl) d_Qu_multiplicity_27 (by decide) (by decide) (fun v σ2 hp => ?_)
      obtain ⟨rfl, k1, k2, k3⟩ := hp
      rw [Nat.add_sub_cancel] at k1 k2 k3
      rw [hfe] at k1
      have ht := top_lead (P := drv P (j + 1)) (n := n - (j + 1)) (drv_n g2 (j + 1) (by omega))
      rw [show n - (j + 1) + 1 = n - j by omega] at ht
      rw [ht] at k1
      have cs2 : cst σ2 a M F d := hc.mv (by rw [k3 _ (by omega), f4 _ (by omega) (by omega) (by omega) (by omega)]) (fun q h1 h2 => by rw [k3 _ (by omega), f4 _ (by omega) (by omega) (by omega) (by omega)])
      have fR : σ2 (a + 153 + 3 * i) = σ (a + 153 + 3 * i) := by rw [k3 _ (by omega), f4 _ (by omega) (by omega) (by omega) (by omega)]
      have ca2 : cat σ2 a i F d M z lev ls x := ⟨f3.mv (k3 _ (by omega)) (k3 _ (by omega)), by rw [fR]; exact d2, by rw [fR]; exact d3, by rw [fR]; exact d4, by rw [fR]; exact d5, d6, d7, d8, hz0⟩
      have ca2 : hid _ := ca2
      refine q_aload_n d_Qu_multiplicity_30 rfl ?_
      refine q_aload_n d_Qu_multiplicity_31 rfl ?_
      refine q_aload_n d_Qu_multiplicity_32 rfl ?_
      refine q_aload_n d_Qu_multiplicity_33 rfl ?_
      refine q_gr hq0 pc_Qu 1 (by decide) w_fl_Qu_25 rfl (by rfl) d_Qu_multiplicity_34 ?_
      refine q_aload_n d_Qu_multiplicity_37 rfl ?_
      refine q_callV (As := [.ref a, .ref (a + 153 + 3 * i), .ref (qa + 145), .ref B]) (c_Qu_signOn l K (No := 9) (e := n - (j + 1)) (b := 35 + 3 * (j + 1)) (G := drv P (j + 1)) hqL2 hLL hbL hqt hdj hqB (by omega) (by omega) hi hg hpla hd1 cs2 ca2 (by omega) (by omega) (by rw [k1]; omega) (fun k hk => by rw [← hmc]; exact k2 k (by omega)) (fun c hc => drv_z g1 (j + 1) c (by omega)) (drv_n g2 (j + 1) (by omega)) (bj (j + 1) (by omega)) (fun _ => sok_m (d 0) (by omega) hd1 n (by omega) (by omega) (j + 1) (by omega) (by omega) (by omega)) (by omega)) w_cd_Qu_signOn w_ini_Qu w_ml_Qu_128 w_im_Qu_signOn w_se_Qu_signOn hq0 rfl hd_Qu_signOn rfl (Nat.le_of_ble_eq_true rfl) d_Qu_multiplicity_38 (by decide) (by decide) (fun v σ3 hp => ?_)
      obtain ⟨⟨s0, rfl, hsg⟩, k4, k5⟩ := hp
      have hsb := hsg.b
      refine q_if_eq (tgt := 47) (by omega) d_Qu_multiplicity_41 (by decide) (fun c0 => ?_) (fun c0 => ?_)
      · refine q_iinc_4 d_Qu_multiplicity_47 (by decide) rfl ?_
        refine q_goto (tgt := 14) d_Qu_multiplicity_50 (by decide) ?_
        refine ih (j + 1) (by omega) σ3 (by rw [k5 _ (by omega) (by omega) (by omega) (by omega), k1]; omega) (fun k hk => ?_) k4 (fun q h1 h2 h3 h4 => by rw [k5 q h1 (by omega) h3 h4, k3 q (by omega)]; exact f4 q h1 h2 h3 h4) (fun t h1 h2 => ?_) _ (by omega)
        · rw [← hmc]; exact (k2 k (by omega)).mv (k5 _ (by omega) (by omega) (by omega) (by omega)) (k5 _ (by omega) (by omega) (by omega) (by omega))
        · rcases Nat.lt_or_ge t (j + 1) with h3 | h3
          · exact f5 t h1 h3
          · obtain rfl : t = j + 1 := by omega
            rcases hsg with ⟨-, h4⟩ | ⟨h4, -⟩
            · exact h4
            · omega
      · refine q_iload d_Qu_multiplicity_44 rfl ?_
        refine q_topi (show s = ((j + 1 : Nat) : Int) by omega) ?_
        exact q_iret rfl (⟨⟨j + 1, rfl, by omega, by omega, f5, fun _ => by
                rcases hsg with ⟨h1, -⟩ | ⟨h1, h2⟩
                · exact absurd h1 c0
                · rcases h1 with h1 | h1
                  · rw [h1] at h2; exact Or.inl h2
                  · rw [h1] at h2; exact Or.inr h2⟩, k4, fun q h1 h2 h3 h4 => by rw [k5 q h1 (by omega) h3 h4, k3 q (by omega)]; exact f4 q h1 h2 h3 h4⟩) d_Qu_multiplicity_46
  refine q_aload_n d_Qu_multiplicity_0 rfl ?_
  refine q_gr hq0 pc_Qu 1 (by decide) w_fl_Qu_25 rfl (by rfl) d_Qu_multiplicity_1 ?_
  refine q_aload_n d_Qu_multiplicity_4 rfl ?_
  refine q_gr hH0 pc_He 1 (by decide) w_fl_Qu_119 rfl (by rfl) d_Qu_multiplicity_5 ?_
  refine q_callV (As := [.ref (a + 2)]) (c_Py_copy l K (n := n + 1) (P := P) hqt hps (by decide) (by omega) (by omega) (by omega) (by rw [hdeg]; omega) (fun k hk => hP k (by omega)) (fun k _ => lim_up (bc 0 (by omega) k) (by decide))) w_cd_Py_copy w_ini_Py w_ml_Qu_73 w_im_Py_copy w_se_Py_copy hqt.1 rfl hd_Py_copy rfl (Nat.le_of_ble_eq_true rfl) d_Qu_multiplicity_8 (by decide) (by decide) (fun v σ1 hp => ?_)
  obtain ⟨rfl, k1, k2, k3⟩ := hp
  rw [top_lead g2] at k1
  refine q_iconst d_Qu_multiplicity_11 rfl ?_
  refine q_ist_4 d_Qu_multiplicity_12 (by decide) rfl ?_
  exact loop (n - d 0) 0 (by omega) σ1 (by rw [k1]; omega) (fun k hk => k2 k (by omega)) (hca.1.mv (k3 _ (by omega)) (k3 _ (by omega))) (fun q h1 h2 h3 h4 => k3 q (by omega)) (fun t h1 h2 => by omega) 1 rfl
