/-! THE DESK: apart, floor -/
theorem zin.lim {z lev : Int} (h : zin z lev) (hl : lev ≤ 572) : (z.natAbs : Int) < 2147483648 ^ 40 := lim_up (lim_ofI (x := 604) (Nat.le_trans h.lo (Nat.pow_le_pow_right (by omega) (by omega)))) (by decide)
theorem aps_01 {q : Rat → Rat} {N : Rat → Int} {k r : Int} (hk : k ≤ 0) (h : aps q N k r) : aps q N 1 r := by
  have : r = 0 := by
    rcases Int.lt_or_le 0 r with h1 | h1
    · obtain ⟨i, h2, h3, -⟩ := h.2.2 h1; omega
    · have := h.1; omega
  subst this
  exact aps_0 (by omega)
theorem heR.cat {σ σ' : q_S} {a i n M re : Nat} {P : Nat → Int} {F : Nat → Nat → Int} {d : Nat → Nat} {z lev ls x : Int} (h : heR σ a P n M F d re) (hca : cat σ' a i F d M z lev ls x) (hi : i < 8) (hic : (i : Int) < vlo F d M - vhi F d M) (e0 : σ' a = σ a) (e1 : σ' (a + 22) 1 = σ (a + 22) 1) (e : ∀ q, a + 22 < q → q < a + 177 → (q < a + 153 + 3 * i ∨ a + 153 + 3 * i + 2 < q) → σ' q = σ q) : heR σ' a P n M F d re := by
  refine ⟨h.1.mv e0 e1 (fun q h1 h2 => e q h1 (by omega) (by omega)), fun k hk => ?_⟩
  by_cases hki : k = i
  · subst hki; exact Or.inr ⟨hic, _, _, _, _, hca⟩
  · rcases h.2 k hk with h1 | ⟨h1, h2⟩
    · left; rw [e _ (by omega) (by omega) (by omega)]; exact h1
    · exact Or.inr ⟨h1, h2.mv (fun q a1 a2 => e q (by omega) (by omega) (by omega))⟩
theorem zin.two {z lev n : Int} (h : zin z lev) (hl : -32 ≤ lev) (hn : 0 ≤ n) : zin (if 0 ≤ n - lev then z * 2 ^ (n - lev).toNat else z / 2 ^ (-(n - lev)).toNat) n := by
  unfold zin at *
  split
  · rename_i h1
    generalize hk : (n - lev).toNat = k
    rw [show (32 + n).toNat = (32 + lev).toNat + k by omega, Int.pow_add]
    have hp := ip_pos (B := 2) (by decide) k
    generalize (2 : Int) ^ (32 + lev).toNat = A at *
    generalize (2 : Int) ^ k = D at *
    have x1 := Int.mul_le_mul_of_nonneg_right h.1 (show 0 ≤ D by omega)
    have x2 := Int.mul_le_mul_of_nonneg_right h.2 (show 0 ≤ D by omega)
    rw [Int.neg_mul] at x1
    rw [Int.add_mul, Int.one_mul] at x2
    omega
  · rename_i h1
    generalize hk : (-(n - lev)).toNat = k
    rw [show (32 + lev).toNat = (32 + n).toNat + k by omega, Int.pow_add] at h
    have hp := ip_pos (B := 2) (by decide) k
    generalize (2 : Int) ^ (32 + n).toNat = A at *
    generalize (2 : Int) ^ k = D at *
    have x1 : -A ≤ z / D := Int.le_ediv_of_mul_le hp (by rw [Int.neg_mul]; exact h.1)
    have x2 : z / D < A := Int.ediv_lt_of_lt_mul hp (by omega)
    omega
theorem mvd_bd {y lev T : Int} (hl : -32 ≤ lev) (h1 : -2 ^ (32 + lev).toNat * T ≤ y) (h2 : y ≤ 2 ^ (32 + lev).toNat * T) : (mvd y lev).natAbs ≤ 2 ^ 32 * T.natAbs := by
  have main : -(2 ^ 32 * T) ≤ mvd y lev ∧ mvd y lev ≤ 2 ^ 32 * T := by
    unfold mvd
    split
    · rename_i h3
      generalize hk : (-lev).toNat = k
      have hp := ip_pos (B := 2) (by decide) k
      have e : (2 : Int) ^ 32 = 2 ^ (32 + lev).toNat * 2 ^ k := by rw [← Int.pow_add, show (32 + lev).toNat + k = 32 by omega]
      rw [e]
      generalize (2 : Int) ^ (32 + lev).toNat = A at *
      generalize (2 : Int) ^ k = D at *
      have x1 := Int.mul_le_mul_of_nonneg_right h1 (show 0 ≤ D by omega)
      have x2 := Int.mul_le_mul_of_nonneg_right h2 (show 0 ≤ D by omega)
      constructor
      · refine Int.le_trans (Int.le_of_eq ?_) x1; grind
      · refine Int.le_trans x2 (Int.le_of_eq ?_); grind
    · rename_i h3
      generalize hk : (-(-lev)).toNat = k
      have hp := ip_pos (B := 2) (by decide) k
      have e : (2 : Int) ^ (32 + lev).toNat = 2 ^ 32 * 2 ^ k := by rw [← Int.pow_add, show (32 + lev).toNat = 32 + k by omega]
      rw [e] at h1 h2
      generalize (2 : Int) ^ 32 = A at *
      generalize (2 : Int) ^ k = D at *
      constructor
      · refine Int.le_ediv_of_mul_le hp (Int.le_trans (Int.le_of_eq ?_) h1); grind
      · refine Int.ediv_le_of_le_mul hp (Int.le_trans h2 (Int.le_of_eq ?_)); grind
  have e : (2 ^ 32 * T.natAbs : Nat) = ((2 : Int) ^ 32 * T).natAbs := by rw [Int.natAbs_mul]; rfl
  rw [e]
  omega
theorem zin.tens {z lev T : Int} (h : zin z lev) (hl : -32 ≤ lev) (hT : 1 ≤ T) : (mvd (z * T) lev).natAbs ≤ 2 ^ 32 * T.natAbs ∧ (mvd (z * T + 1 * T + -1) lev).natAbs ≤ 2 ^ 32 * T.natAbs := by
  have x1 := Int.mul_le_mul_of_nonneg_right h.1 (show 0 ≤ T by omega)
  have x2 := Int.mul_le_mul_of_nonneg_right h.2 (show 0 ≤ T by omega)
  rw [Int.add_mul, Int.one_mul] at x2
  exact ⟨mvd_bd hl x1 (by omega), mvd_bd hl (by omega) (by omega)⟩
theorem hf_bd {P : Nat → Int} {n b B : Nat} {X U : Int} (hP : ∀ k, (P k).natAbs ≤ 2 ^ b) (hX : X.natAbs ≤ 2 ^ B) (hU : U.natAbs ≤ 2 ^ B) : ∀ i, (hf P n X U i).natAbs ≤ i * 2 ^ (b + B * (i - 1)) := by
  intro i
  induction i with
  | zero => simp [hf]
  | succ i ih =>
    have h1 : (hf P n X U (i + 1)).natAbs ≤ (hf P n X U i).natAbs * X.natAbs + (P (n - i)).natAbs * U.natAbs ^ i := by
      simp only [hf]
      refine Nat.le_trans (Int.natAbs_add_le _ _) ?_
      rw [Int.natAbs_mul, Int.natAbs_mul, Int.natAbs_pow]
      exact Nat.le_refl _
    refine Nat.le_trans h1 ?_
    have h2 : (P (n - i)).natAbs * U.natAbs ^ i ≤ 2 ^ (b + B * (i + 1 - 1)) := by
      rw [Nat.add_sub_cancel, Nat.pow_add, Nat.pow_mul]
      exact Nat.mul_le_mul (hP _) (Nat.pow_le_pow_left hU _)
    have h3 : (hf P n X U i).natAbs * X.natAbs ≤ i * 2 ^ (b + B * (i + 1 - 1)) := by
      refine Nat.le_trans (Nat.mul_le_mul ih hX) ?_
      rw [Nat.mul_assoc, ← Nat.pow_add]
      rcases Nat.eq_zero_or_pos i with e | e
      · subst e; simp
      · refine Nat.mul_le_mul_left _ (Nat.pow_le_pow_right (by omega) ?_)
        obtain ⟨j, rfl⟩ : ∃ j, i = j + 1 := ⟨i - 1, by omega⟩
        rw [Nat.add_sub_cancel, Nat.add_sub_cancel, Nat.mul_add, Nat.mul_one]
        omega
    rw [Nat.add_mul, Nat.one_mul]
    omega
theorem fbm_52 : ∀ m, m ≤ 8 → fbm m ≤ 52 := by unfold fbm; decide +kernel
theorem ten_pB : ((List.range 91).all fun n => Nat.ble (10 ^ n) (2 ^ (n * 10 / 3 + 8))) = true := by decide +kernel
theorem ten_p {n : Nat} (h : n ≤ 90) : (10 : Nat) ^ n ≤ 2 ^ (n * 10 / 3 + 8) := Nat.le_of_ble_eq_true (List.all_eq_true.1 ten_pB n (List.mem_range.2 (by omega)))
theorem ten_300 {n : Nat} (h : n ≤ 90) : (10 : Nat) ^ n ≤ 2 ^ 300 := Nat.le_trans (Nat.pow_le_pow_right (by decide) h) (by decide)
theorem ten_abs (n : Nat) : ((10 : Int) ^ n).natAbs = 10 ^ n := by rw [Int.natAbs_pow]; rfl
theorem p332 : (2 : Nat) ^ 332 < 10 ^ 117 := by decide
theorem tx_fit {w : Int} (h : w.natAbs ≤ 2 ^ 332) : w.natAbs < 10 ^ 117 ∧ (w.natAbs : Int) < 2147483648 ^ 160 := ⟨Nat.lt_of_le_of_lt h p332, lim_up (lim_ofI h) (by decide)⟩
theorem flt_ok {P : Nat → Int} {nM M n : Nat} {F : Nat → Nat → Int} {d : Nat → Nat} {i z lev ls x : Int} (hg : gch P nM M F d) (hc : ccl (lk F d 0) (cN F d M) i z lev ls x) (hn : n ≤ 90) (hx : x = 1 ∨ ((n * 10 / 3 + 8 : Nat) : Int) ≤ lev) : flT (lk F d 0) (cN F d M) i (flt (F 0) (d 0) n z lev ls x) (10 ^ n) := by
  obtain ⟨s, hs⟩ := hg.rs
  rcases hc.x01 with h | h
  · subst h
    have h1 : ((n * 10 / 3 + 8 : Nat) : Int) ≤ lev := by omega
    obtain ⟨k, rfl⟩ : ∃ k : Nat, lev = (k : Int) := ⟨lev.toNat, by omega⟩
    have h2 : (10 : Int) ^ n ≤ 2 ^ k := by
      have := Nat.le_trans (ten_p hn) (Nat.pow_le_pow_right (n := 2) (by decide) (show n * 10 / 3 + 8 ≤ k by omega))
      have h3 := Int.ofNat_le.2 this
      rw [Int.natCast_pow, Int.natCast_pow] at h3
      exact h3
    refine hc.ten0 hs h2 ?_
    unfold flt
    rw [if_pos rfl, hf_sg _ _ _ _ (ip_pos (by decide) n)]
    rfl
  · subst h
    unfold flt
    rw [if_neg (by decide)]
    exact hc.ten1 hs.rts
theorem flt_bd {P : Nat → Int} {nd n : Nat} {z lev ls x : Int} (h : zin z lev) (hl : -32 ≤ lev) (hn : n ≤ 90) : (flt P nd n z lev ls x).natAbs ≤ 2 ^ 332 ∧ (mvd (z * 10 ^ n + 1 * 10 ^ n + -1) lev).natAbs ≤ 2 ^ 332 := by
  have hb := h.tens hl (T := 10 ^ n) (by have := ip_pos (B := 10) (by decide) n; omega)
  rw [ten_abs] at hb
  have h3 : 2 ^ 32 * 10 ^ n ≤ (2 : Nat) ^ 332 := by
    refine Nat.le_trans (Nat.mul_le_mul_left _ (ten_300 hn)) ?_
    rw [← Nat.pow_add]
    exact Nat.le_refl _
  have h1 := Nat.le_trans hb.1 h3
  have h2 := Nat.le_trans hb.2 h3
  refine ⟨?_, h2⟩
  unfold flt
  split
  · split
    · exact h1
    · split
      · exact h2
      · exact h1
  · exact h1
set_option maxHeartbeats 4000000 in
set_option maxRecDepth 100000 in
theorem a_D_apart (l : Launch) (K : pw_K) {L : q_L} {σ : q_S} {x j n : Nat} {P : Nat → Int} (hD : dL L x) (hj : j < 2) (hi : hin σ (x + 2 + 177 * j) P) (hn : top P 9 = n + 1) {M : Nat} {F : Nat → Nat → Int} {d : Nat → Nat} {re : Nat} : ∀ (f : Nat) (k : Nat) (t r0 : Int), t = k → (k : Int) + f = vlo F d M - vhi F d M → ∀ (σ1 : q_S), heR σ1 (x + 2 + 177 * j) P n M F d re → src σ1 (x + 2 + 177 * j) P → (∀ i, i < k → rcl σ1 (x + 2 + 177 * j) i F d M) → aps (lk F d 0) (cN F d M) k r0 → r0 ≤ 1000 → (∀ q, (q < (x + 2 + 177 * j) ∨ (x + 2 + 177 * j) + 177 ≤ q) → (q ≤ x + 356 ∨ x + 447 ≤ q) → σ1 q = σ q) → q_T l K L R_D b_D_apart 5 (some .int) 9 (fun r σ' => (∃ (M : Nat) (F : Nat → Nat → Int) (d : Nat → Nat) (re : Nat), (∃ rr : Int, r = some (vi rr) ∧ aps (lk F d 0) (cN F d M) (vlo F d M - vhi F d M) rr) ∧ heR σ' (x + 2 + 177 * j) P n M F d re) ∧ src σ' (x + 2 + 177 * j) P ∧ (∀ q, (q < (x + 2 + 177 * j) ∨ (x + 2 + 177 * j) + 177 ≤ q) → (q ≤ x + 356 ∨ x + 447 ≤ q) → σ' q = σ q)) 24 [some (.ref x), some (vi j), some (.ref (x + 2 + 177 * j)), some (vi r0), some (vi t)] [] σ1 := by
  have hDL := hD
  obtain ⟨hD0, ⟨dg', hdg1, hdg2⟩, hHe, hbe, hqu, htx⟩ := hD
  have hH := hHe j hj
  have hb0 := hbe.1
  have hpt : ptL L (x + 356 + 25) := hbe.2.2.1
  have hsn := hi.1.pn hn
  have hdeg := hsn.2.2.2.2.1
  have hn8 := hsn.1
  intro f
  induction f with
  | zero =>
    intro k t r0 ht hk σ1 k2 k1 hrc hap hr0 hfr
    have hap0 := hap.1
    have hc5 := k2.1.2.2.2.1
    have hcn := k2.1.1.cnt
    refine q_iload d_D_apart_24 rfl ?_
    refine q_aload_n d_D_apart_26 rfl ?_
    refine q_gi hH.1 pc_He 5 (by decide) w_fl_D_70 rfl (by rfl) d_D_apart_27 ?_
    refine q_topi hc5 ?_
    refine q_icmp_ge (tgt := 71) (by omega) (by omega) d_D_apart_30 (by decide) (fun c30 => ?_) (fun c30 => absurd c30 (by omega))
    refine q_iload_n d_D_apart_71 rfl ?_
    exact q_iret rfl (⟨⟨M, F, d, re, ⟨r0, rfl, by rw [← hk, show (k : Int) + ((0 : Nat) : Int) = k by omega]; exact hap⟩, k2⟩, k1, hfr⟩) d_D_apart_72
  | succ f ih =>
    intro k t r0 ht hk σ1 k2 k1 hrc hap hr0 hfr
    have hap0 := hap.1
    have hc5 := k2.1.2.2.2.1
    have hg := k2.1.1
    have hcn := hg.cnt
    have hlt : (k : Int) < vlo F d M - vhi F d M := by omega
    have hi8 : k < 8 := by omega
    refine q_iload d_D_apart_24 rfl ?_
    refine q_aload_n d_D_apart_26 rfl ?_
    refine q_gi hH.1 pc_He 5 (by decide) w_fl_D_70 rfl (by rfl) d_D_apart_27 ?_
    refine q_topi hc5 ?_
    refine q_icmp_ge (tgt := 71) (by omega) (by omega) d_D_apart_30 (by decide) (fun c30 => absurd c30 (by omega)) (fun c30 => ?_)
    refine q_aload_n d_D_apart_33 rfl ?_
    refine q_iload d_D_apart_34 rfl ?_
    refine q_topi ht ?_
    refine q_aload_n d_D_apart_36 rfl ?_
    refine q_gr hD0 pc_D 1 (by decide) w_fl_D_19 rfl (by rfl) d_D_apart_37 ?_
    refine q_callV (As := [vi k, .ref (x + 356)]) (al_He_isolate l K (i := k) hH hbe (by omega) k2 hlt) w_cd_He_isolate w_ini_He w_ml_D_112 w_im_He_isolate w_se_He_isolate hH.1 rfl hd_He_isolate rfl (Nat.le_of_ble_eq_true rfl) d_D_apart_40 (by decide) (by decide) (fun v σ2 hp => ?_)
    obtain ⟨rfl, k4, k5, k6, k7⟩ := hp
    have fr2 : ∀ q, (q < (x + 2 + 177 * j) ∨ (x + 2 + 177 * j) + 177 ≤ q) → (q ≤ x + 356 ∨ x + 447 ≤ q) → σ2 q = σ q := fun q h1 h2 => by rw [k7 q (by omega) (by omega) (by omega)]; exact hfr q h1 h2
    have s2 : src σ2 (x + 2 + 177 * j) P := k1.mv (fun q h1 h2 => k7 q (by omega) (by omega) (by omega))
    refine q_iload d_D_apart_43 rfl ?_
    refine q_if_le (tgt := 65) (by omega) d_D_apart_45 (by decide) (fun ck => ?_) (fun ck => ?_)
    · refine q_iinc_4 d_D_apart_65 (by decide) rfl ?_
      refine q_goto (tgt := 24) d_D_apart_68 (by decide) ?_
      refine ih (k + 1) _ r0 (by omega) (by omega) σ2 k4 s2 (fun i hik => ?_) ?_ hr0 fr2
      · rw [show i = k by omega]; exact k5
      · rw [show ((k + 1 : Nat) : Int) = 1 by omega]
        exact aps_01 (by omega) hap
    · obtain ⟨kk, rfl⟩ : ∃ kk : Nat, k = kk + 1 := ⟨k - 1, by omega⟩
      obtain ⟨za, la, lsa, xa, a1, a2, a3, a4, a5, a6, a7, a8, a9⟩ := k6 kk (by omega) (hrc kk (by omega))
      obtain ⟨zb, lb, lsb, xb, b1, b2, b3, b4, b5, b6, b7, b8, b9⟩ := k5
      have hl572 : LV (d 0) = 572 := rfl
      obtain ⟨sN, hsN⟩ := hg.rs
      refine q_iload_n d_D_apart_48 rfl ?_
      refine q_aload_n d_D_apart_49 rfl ?_
      refine q_iload d_D_apart_50 rfl ?_
      refine q_iconst d_D_apart_52 rfl ?_
      refine q_isub d_D_apart_53 ?_
      refine q_topi (show t - 1 = (kk : Int) by omega) ?_
      refine q_aload_n d_D_apart_54 rfl ?_
      refine q_gr hD0 pc_D 1 (by decide) w_fl_D_19 rfl (by rfl) d_D_apart_55 ?_
      refine q_callV (As := [vi kk, .ref (x + 356)]) (c_He_firstLevelApart l K (i := kk) hH hbe (by omega) (by omega) a1 a2 b1 b2 (by omega) (by omega) (a9.lim (by omega)) (b9.lim (by omega))) w_cd_He_firstLevelApart w_ini_He w_ml_D_145 w_im_He_firstLevelApart w_se_He_firstLevelApart hH.1 rfl hd_He_firstLevelApart rfl (Nat.le_of_ble_eq_true rfl) d_D_apart_58 (by decide) (by decide) (fun v σ3 hp => ?_)
      obtain ⟨⟨nn, rfl, n1, n2, n3⟩, k8⟩ := hp
      have hapt := apt_of hsN.rts (i := (kk : Int)) a6 (by rw [show (kk : Int) + 1 = ((kk + 1 : Nat) : Int) by omega]; exact b6) n1 n2 n3
      have nb : nn ≤ 1000 := by
        rcases Int.lt_or_le 0 nn with h9 | h9
        · have := (n3 h9).1; omega
        · omega
      refine q_mmax (by omega) (by omega) w_ml_D_102 d_D_apart_61 (by decide) (Nat.le_of_ble_eq_true rfl) ?_
      refine q_ist_n_3 d_D_apart_64 (by decide) rfl ?_
      refine q_iinc_4 d_D_apart_65 (by decide) rfl ?_
      refine q_goto (tgt := 24) d_D_apart_68 (by decide) ?_
      refine ih (kk + 1 + 1) _ _ (by omega) (by omega) σ3 (k4.mv (k8 _ (by omega) (by omega) (by omega) (by omega)) (by rw [k8 _ (by omega) (by omega) (by omega) (by omega)]) (fun q h1 h2 => k8 q (by omega) (by omega) (by omega) (by omega))) (s2.mv (fun q h1 h2 => k8 q (by omega) (by omega) (by omega) (by omega))) (fun i hik => ?_) ?_ (by omega) (fun q h1 h2 => by rw [k8 q (by omega) (by omega) (by omega) (by omega)]; exact fr2 q h1 h2)
      · rcases Nat.lt_or_ge i (kk + 1) with h9 | h9
        · exact (k6 i (by omega) (hrc i h9)).mv (fun q h1 h2 => k8 q (by omega) (by omega) (by omega) (by omega))
        · rw [show i = kk + 1 by omega]
          exact rcl.mv ⟨zb, lb, lsb, xb, b1, b2, b3, b4, b5, b6, b7, b8, b9⟩ (fun q h1 h2 => k8 q (by omega) (by omega) (by omega) (by omega))
      · rw [show ((kk + 1 + 1 : Nat) : Int) = ((kk + 1 : Nat) : Int) + 1 by omega]
        refine aps_s (by omega) hap ?_
        rw [show ((kk + 1 : Nat) : Int) - 1 = (kk : Int) by omega]
        exact hapt
set_option maxHeartbeats 4000000 in
set_option maxRecDepth 100000 in
theorem q_D_apart (l : Launch) (K : pw_K) {L : q_L} {σ : q_S} {x j n : Nat} {P : Nat → Int} (hD : dL L x) (hj : j < 2) (hi : hin σ (x + 2 + 177 * j) P) (hn : top P 9 = n + 1) : q_C l K L y_D_apart b_D_apart 5 (some .int) 9 [.ref x, vi j] σ (fun r σ' => (∃ (M : Nat) (F : Nat → Nat → Int) (d : Nat → Nat) (re : Nat), (∃ rr : Int, r = some (vi rr) ∧ aps (lk F d 0) (cN F d M) (vlo F d M - vhi F d M) rr) ∧ heR σ' (x + 2 + 177 * j) P n M F d re) ∧ src σ' (x + 2 + 177 * j) P ∧ (∀ q, (q < (x + 2 + 177 * j) ∨ (x + 2 + 177 * j) + 177 ≤ q) → (q ≤ x + 356 ∨ x + 447 ≤ q) → σ' q = σ q)) := by
  have hDL := hD
  obtain ⟨hD0, ⟨dg', hdg1, hdg2⟩, hHe, hbe, hqu, htx⟩ := hD
  have hH := hHe j hj
  have hb0 := hbe.1
  have hpt : ptL L (x + 356 + 25) := hbe.2.2.1
  have hsn := hi.1.pn hn
  have hdeg := hsn.2.2.2.2.1
  have hn8 := hsn.1
  refine q_start [some (.ref x), some (vi j), none, none, none] (by decide) (Nat.le_of_ble_eq_true rfl) (fun q h => h) ?_
  refine q_aload_n d_D_apart_0 rfl ?_
  refine q_iload_n d_D_apart_1 rfl ?_
  refine q_callV (As := [vi j]) (q_D_checkPolynomial l K L σ x (by omega)) w_cd_D_checkPolynomial w_ini_D w_ml_D_37 w_im_D_checkPolynomial w_se_D_checkPolynomial hD0 rfl hd_D_checkPolynomial rfl (Nat.le_of_ble_eq_true rfl) d_D_apart_2 (by decide) (by decide) (fun v σ9 hp => ?_)
  obtain ⟨rfl, hσ⟩ := hp
  rw [hσ]
  clear hσ σ9
  refine q_aload_n d_D_apart_5 rfl ?_
  refine q_iload_n d_D_apart_6 rfl ?_
  refine q_callV (As := [vi j]) (q_D_some l K σ hDL hj (dg := (n : Int)) hdeg (by omega)) w_cd_D_some w_ini_D w_ml_D_62 w_im_D_some w_se_D_some hD0 rfl hd_D_some rfl (Nat.le_of_ble_eq_true rfl) d_D_apart_7 (by decide) (by decide) (fun v σ9 hp => ?_)
  obtain ⟨rfl, hσ⟩ := hp
  rw [hσ]
  clear hσ σ9
  refine q_ast_n_2 d_D_apart_10 (by decide) rfl ?_
  refine q_aload_n d_D_apart_11 rfl ?_
  refine q_aload_n d_D_apart_12 rfl ?_
  refine q_gr hD0 pc_D 1 (by decide) w_fl_D_19 rfl (by rfl) d_D_apart_13 ?_
  refine q_callV (As := [.ref (x + 356)]) (al_He_prepare l K hH hbe (by omega) hi hn) w_cd_He_prepare w_ini_He w_ml_D_66 w_im_He_prepare w_se_He_prepare hH.1 rfl hd_He_prepare rfl (Nat.le_of_ble_eq_true rfl) d_D_apart_16 (by decide) (by decide) (fun v σ1 hp => ?_)
  obtain ⟨rfl, k1, ⟨M, F, d, re, k2⟩, k3⟩ := hp
  have hg := k2.1.1
  have hcn := hg.cnt
  have hc5 := k2.1.2.2.2.1
  refine q_iconst d_D_apart_19 rfl ?_
  refine q_ist_n_3 d_D_apart_20 (by decide) rfl ?_
  refine q_iconst d_D_apart_21 rfl ?_
  refine q_ist_4 d_D_apart_22 (by decide) rfl ?_
  exact a_D_apart l K hDL hj hi hn (vlo F d M - vhi F d M).toNat 0 0 0 rfl (by omega) σ1 k2 k1 (fun i h => by omega) (aps_0 (by omega)) (by omega) k3
