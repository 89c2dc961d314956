/-! Math.floorDiv; HELD: reachOfRoots, change -/
theorem xor_lt {x y : Int32} (hy : 0 ≤ y.toInt) : ((x ^^^ y).toInt < 0) ↔ x.toInt < 0 := by
  have h := @BitVec.msb_xor 32 x.toBitVec y.toBitVec
  rw [← Int32.toBitVec_xor, BitVec.msb_eq_toInt, BitVec.msb_eq_toInt, BitVec.msb_eq_toInt] at h
  have hy' : decide (y.toBitVec.toInt < 0) = false := decide_eq_false (Int.not_lt.mpr hy)
  rw [hy', Bool.xor_false] at h
  exact decide_eq_decide.mp h
theorem fdv {x y : Int} (hy : 0 < y) : x / y = if x < 0 ∧ x.tdiv y * y ≠ x then x.tdiv y - 1 else x.tdiv y := by
  rw [Int.tdiv_eq_ediv]
  by_cases h : 0 ≤ x ∨ y ∣ x
  · rw [if_pos h, Int.add_zero]
    split
    · rename_i hc
      exfalso
      rcases h with h | h
      · omega
      · exact hc.2 (Int.ediv_mul_cancel h)
    · rfl
  · have h2 := not_or.mp h
    rw [if_neg h, Int.sign_eq_one_of_pos hy]
    rw [if_pos ⟨by omega, fun e => h2.2 ⟨_, e.symm.trans (Int.mul_comm _ _)⟩⟩]
    omega
theorem fdv_r {x y : Int} (hy : 0 < y) (hx : -2147483648 ≤ x ∧ x < 2147483648) : -2147483648 ≤ x.tdiv y * y ∧ x.tdiv y * y < 2147483648 := by
  have h1 : x.tdiv y * y = x - x.tmod y := by have := Int.tdiv_mul_add_tmod x y; omega
  rw [h1]
  rcases Int.lt_or_le x 0 with h | h
  · have h2 : (-x).tmod y = -(x.tmod y) := Int.neg_tmod ..
    have h3 := Int.tmod_nonneg y (show 0 ≤ -x by omega)
    have h4 : (-x).tmod y ≤ -x := by
      rw [Int.tmod_eq_emod_of_nonneg (by omega)]
      rcases Int.lt_or_le (-x) y with h5 | h5
      · rw [Int.emod_eq_of_lt (by omega) h5]; omega
      · have := Int.emod_lt_of_pos (-x) hy; omega
    omega
  · have h3 := Int.tmod_nonneg y h
    have h4 : x.tmod y ≤ x := by
      rw [Int.tmod_eq_emod_of_nonneg h]
      rcases Int.lt_or_le x y with h5 | h5
      · rw [Int.emod_eq_of_lt h h5]; omega
      · have := Int.emod_lt_of_pos x hy; omega
    omega
theorem q_C.mono {l : Launch} {K : pw_K} {L : q_L} {y : MethodName} {b : ByteArray} {nL : Nat} {ret : Option FieldType} {d : Nat} {av : List Value} {σ : q_S} {post post' : Option Value → q_S → Prop} (h : q_C l K L y b nL ret d av σ post) (hp : ∀ v σ', post v σ' → post' v σ') : q_C l K L y b nL ret d av σ post' := fun f sz hat => (h f sz hat).mono (fun v f2 z hq => by
  obtain ⟨h1, σ', h2, h3, h4⟩ := hq
  exact ⟨h1, σ', h2, h3, hp v σ' h4⟩)
/-- as q_start, for a class some of whose members the machine runs itself -/
theorem q_startF {l : Launch} {K : pw_K} {L : q_L} {y : MethodName} {b : ByteArray} {nL : Nat} {ret : Option FieldType} {d : Nat} {av : List Value} {σ : q_S} {post : Option Value → q_S → Prop} (lv : List (Option Value)) (hy : plainFor y = true) (hn : (lg_sl av).length ≤ nL) (hlv : ∀ q ∈ q_lv 0 lv, q ∈ lv_args 0 av) (body : q_T l K L y.cls b nL ret d post 0 lv [] σ) : q_C l K L y b nL ret d av σ post := by
  intro f sz hat
  refine va_MetF (cc := b) (maxL := nL) (ret := ret) hy rfl ?_
  intro p e s m args below meth c s₁ B hml hv
  obtain ⟨rfl, hsz, hP, hlo, hZ, hW⟩ := hv
  rw [lg_entry_eq]
  exact body _ _ _ _ _ _ _ _ _ _ _ _ _ _ ⟨B.exec, B.bytes, hml, findClass_of_methodNamed B.named, pw_words hZ hW, va_K.moved hW.alike hZ.2.1, ⟨B.notSynchronized, hP.1.2⟩, hZ, hW⟩ B.returns hsz ⟨hP, (fun x h => by cases h), (by rw [hsz]; exact hlo)⟩ hat (fun q _ => rfl) (q_has (lv_entry av hn) hlv)
set_option maxHeartbeats 4000000 in
set_option maxRecDepth 100000 in
theorem c_Ma_floorDiv (l : Launch) (K : pw_K) {L : q_L} {σ : q_S} {x y : Int} (hx : -2147483648 ≤ x ∧ x < 2147483648) (hy : 0 < y ∧ y < 2147483648) : q_C l K L y_Ma_floorDiv b_Ma_floorDiv 3 (some .int) 0 [vi x, vi y] σ (fun v σ' => v = some (vi (x / y)) ∧ σ' = σ) := by
  have h1 := fdv_r hy.1 hx
  have h3 := fdv (x := x) hy.1
  have h4 : ((Int32.ofInt x ^^^ Int32.ofInt y).toInt < 0) ↔ x < 0 := by
    have := xor_lt (x := Int32.ofInt x) (y := Int32.ofInt y) (by rw [q_ti (by omega)]; omega)
    rw [q_ti hx] at this
    exact this
  refine q_startF [some (vi x), some (vi y), none] (by decide +kernel) (Nat.le_of_ble_eq_true rfl) (fun q h => h) ?_
  refine q_iload_n d_Ma_floorDiv_0 rfl ?_
  refine q_iload_n d_Ma_floorDiv_1 rfl ?_
  refine q_idiv hx (by omega) hy.1 d_Ma_floorDiv_2 ?_
  refine q_ist_n_2 d_Ma_floorDiv_3 (by decide) rfl ?_
  refine q_iload_n d_Ma_floorDiv_4 rfl ?_
  refine q_iload_n d_Ma_floorDiv_5 rfl ?_
  refine q_ixor (z := (Int32.ofInt x ^^^ Int32.ofInt y).toInt) (Int32.ofInt_toInt _).symm d_Ma_floorDiv_6 ?_
  refine q_if_ge (tgt := 21) ⟨Int32.le_toInt _, Int32.toInt_lt _⟩ d_Ma_floorDiv_7 (by decide) (fun c7 => ?_) (fun c7 => ?_)
  · refine q_iload_n d_Ma_floorDiv_21 rfl ?_
    exact q_iret rfl ⟨by rw [h3, if_neg (fun h => by have := h4.mpr h.1; omega)], rfl⟩ d_Ma_floorDiv_22
  · have h5 := h4.mp (by omega)
    refine q_iload_n d_Ma_floorDiv_10 rfl ?_
    refine q_iload_n d_Ma_floorDiv_11 rfl ?_
    refine q_imul d_Ma_floorDiv_12 ?_
    refine q_iload_n d_Ma_floorDiv_13 rfl ?_
    refine q_icmp_eq (tgt := 21) h1 hx d_Ma_floorDiv_14 (by decide) (fun c14 => ?_) (fun c14 => ?_)
    · refine q_iload_n d_Ma_floorDiv_21 rfl ?_
      exact q_iret rfl ⟨by rw [h3, if_neg (fun h => h.2 c14)], rfl⟩ d_Ma_floorDiv_22
    · refine q_iload_n d_Ma_floorDiv_17 rfl ?_
      refine q_iconst d_Ma_floorDiv_18 rfl ?_
      refine q_isub d_Ma_floorDiv_19 ?_
      exact q_iret rfl ⟨by rw [h3, if_pos ⟨h5, c14⟩], rfl⟩ d_Ma_floorDiv_20
/-- 2 to the re is above all roots (Fujiwara) -/
def rok (P : Nat → Int) (n re : Nat) : Prop := ∀ k, 1 ≤ k → k ≤ n → ((P (n - k)).natAbs : Int) * 2 ^ k < ((P n).natAbs : Int) * 2 ^ (k * re)
theorem rok_st {c d : Int} {β γ k re : Nat} (hc : c ≠ 0) (h1 : c ≠ 0 → 0 < β ∧ 2 ^ (β - 1) ≤ (c.natAbs : Int) ∧ (c.natAbs : Int) < 2 ^ β) (hd : d ≠ 0) (h2 : d ≠ 0 → 0 < γ ∧ 2 ^ (γ - 1) ≤ (d.natAbs : Int) ∧ (d.natAbs : Int) < 2 ^ γ) (hk : 1 ≤ k) (h : 1 - -((β : Int) - γ + 1) / (k : Int) ≤ (re : Int)) : (c.natAbs : Int) * 2 ^ k < (d.natAbs : Int) * 2 ^ (k * re) := by
  obtain ⟨-, -, a1⟩ := h1 hc
  obtain ⟨a2, a3, -⟩ := h2 hd
  have b1 : β + k ≤ k * re + (γ - 1) := by
    have c1 := Int.ediv_mul_le (-((β : Int) - γ + 1)) (show (k : Int) ≠ 0 by omega)
    have c2 : (k : Int) * (1 - -((β : Int) - γ + 1) / (k : Int)) ≤ (k : Int) * re := Int.mul_le_mul_of_nonneg_left h (by omega)
    rw [Int.mul_sub, Int.mul_one, Int.mul_comm (k : Int) (-((β : Int) - γ + 1) / (k : Int))] at c2
    generalize -((β : Int) - γ + 1) / (k : Int) * (k : Int) = Z at *
    have c3 : ((k * re : Nat) : Int) = (k : Int) * re := Int.natCast_mul _ _
    generalize k * re = Y at *
    omega
  have b2 : (c.natAbs : Int) * 2 ^ k < 2 ^ β * 2 ^ k := Int.mul_lt_mul_of_pos_right a1 (ip_pos (by decide) k)
  rw [← Int.pow_add] at b2
  have b3 := ip_le (B := 2) (by decide) b1
  rw [Int.pow_add 2 (k * re) (γ - 1)] at b3
  have b4 : (2 : Int) ^ (γ - 1) * 2 ^ (k * re) ≤ (d.natAbs : Int) * 2 ^ (k * re) := Int.mul_le_mul_of_nonneg_right a3 (Int.le_of_lt (ip_pos (by decide) _))
  rw [Int.mul_comm ((2 : Int) ^ (γ - 1)) (2 ^ (k * re))] at b4
  omega
set_option maxHeartbeats 4000000 in
set_option maxRecDepth 100000 in
theorem c_He_reachOfRoots (l : Launch) (K : pw_K) {L : q_L} {σ : q_S} {a n : Nat} {P : Nat → Int} (hL : heL L a) (hn : n < 9) (hd : σ (a + 24) 1 = n) (hP : ∀ k, k ≤ n → nV σ (a + 24 + 2 + 2 * k) 48 (P k)) (hl : P n ≠ 0) : q_C l K L y_He_reachOfRoots b_He_reachOfRoots 6 (some .int) 2 [.ref a] σ (fun r σ' => (∃ re : Nat, r = some (vi (re : Int)) ∧ re ≤ 32 ∧ (re = 32 ∨ rok P n re)) ∧ σ' = σ) := by
  obtain ⟨hH0, -, -, hch, -, -⟩ := hL
  obtain ⟨hc0, ⟨g, hg1, hg2⟩, hpl⟩ := hch
  have hp0 : pL L (a + 24) 9 48 := hpl 0 (by decide)
  obtain ⟨pg, hpg, hpg2⟩ := hp0.2.1
  have hpn := hp0.2.2.1
  refine q_start [some (.ref a), none, none, none, none, none] (by decide) (Nat.le_of_ble_eq_true rfl) (fun q h => h) ?_
  have loop : ∀ (r k : Nat), k + r = n + 1 → 1 ≤ k → ∀ mo : Int, 0 ≤ mo ∧ mo ≤ 10000 → (∀ re : Nat, mo ≤ re → ∀ j, 1 ≤ j → j < k → ((P (n - j)).natAbs : Int) * 2 ^ j < ((P n).natAbs : Int) * 2 ^ (j * re)) → ∀ s : Int, s = k → q_T l K L R_He b_He_reachOfRoots 6 (some .int) 2 (fun r σ' => (∃ re : Nat, r = some (vi (re : Int)) ∧ re ≤ 32 ∧ (re = 32 ∨ rok P n re)) ∧ σ' = σ) 14 [some (.ref a), some (.ref (a + 24)), some (vi mo), some (vi s), none, none] [] σ := by
    intro r
    induction r with
    | zero =>
      intro k hk hk1 mo hmo hI s hs
      refine q_iload_n d_He_reachOfRoots_14 rfl ?_
      refine q_aload_n d_He_reachOfRoots_15 rfl ?_
      refine q_gi hp0.1 pc_Py 1 (by decide) w_fl_He_76 rfl (by rfl) d_He_reachOfRoots_16 ?_
      refine q_topi hd ?_
      refine q_icmp_gt (tgt := 85) (by omega) (by omega) d_He_reachOfRoots_19 (by decide) (fun c19 => ?_) (fun c19 => absurd c19 (by omega))
      refine q_iload_n d_He_reachOfRoots_85 rfl ?_
      refine q_bipush d_He_reachOfRoots_86 (by decide) ?_
      refine q_mmin (by omega) (by omega) w_ml_He_109 d_He_reachOfRoots_88 (by decide) (Nat.le_of_ble_eq_true rfl) ?_
      exact q_iret rfl (⟨⟨(min mo 32).toNat, by rw [show (((min mo 32).toNat : Nat) : Int) = min mo 32 by omega], by omega, by
              rcases Int.lt_or_le 32 mo with h | h
              · exact Or.inl (by omega)
              · exact Or.inr (fun j h1 h2 => hI _ (by omega) j h1 (by omega))⟩, rfl⟩) d_He_reachOfRoots_91
    | succ r ih =>
      intro k hk hk1 mo hmo hI s hs
      have hnk := hP (n - k) (by omega)
      have hkk := hpn (n - k) (by omega)
      have hkn := hpn n (by omega)
      refine q_iload_n d_He_reachOfRoots_14 rfl ?_
      refine q_aload_n d_He_reachOfRoots_15 rfl ?_
      refine q_gi hp0.1 pc_Py 1 (by decide) w_fl_He_76 rfl (by rfl) d_He_reachOfRoots_16 ?_
      refine q_topi hd ?_
      refine q_icmp_gt (tgt := 85) (by omega) (by omega) d_He_reachOfRoots_19 (by decide) (fun c19 => absurd c19 (by omega)) (fun c19 => ?_)
      refine q_aload_n d_He_reachOfRoots_22 rfl ?_
      refine q_gr hp0.1 pc_Py 0 (by decide) w_fl_He_40 rfl (by rfl) d_He_reachOfRoots_23 ?_
      refine q_aload_n d_He_reachOfRoots_26 rfl ?_
      refine q_gi hp0.1 pc_Py 1 (by decide) w_fl_He_76 rfl (by rfl) d_He_reachOfRoots_27 ?_
      refine q_topi hd ?_
      refine q_iload_n d_He_reachOfRoots_30 rfl ?_
      refine q_isub d_He_reachOfRoots_31 ?_
      refine q_topi (show _ = ((n - k : Nat) : Int) by omega) ?_
      refine q_aal (n - k) 4 (b := a + 24 + 2 + 2 * (n - k)) rfl hpg (by omega) (by omega) (by omega) (hpg2 _ (by omega)) d_He_reachOfRoots_32 ?_
      refine q_ast_4 d_He_reachOfRoots_33 (by decide) rfl ?_
      refine q_aload d_He_reachOfRoots_35 rfl ?_
      refine q_gi hkk.1.1 pc_Nu 2 (by decide) w_fl_He_124 rfl (by rfl) d_He_reachOfRoots_37 ?_
      refine q_topi hnk.sgn ?_
      have r9 := sgn_b (P (n - k))
      refine q_if_eq (tgt := 79) (by omega) d_He_reachOfRoots_40 (by decide) (fun cz => ?_) (fun cz => ?_)
      · refine q_iinc_3 d_He_reachOfRoots_79 (by decide) rfl ?_
        refine q_goto (tgt := 14) d_He_reachOfRoots_82 (by decide) ?_
        refine q_drop_4 ?_
        exact ih (k + 1) (by omega) (by omega) mo hmo (fun re h1 j h2 h3 => by
          rcases Nat.lt_or_ge j k with h4 | h4
          · exact hI re h1 j h2 h4
          · obtain rfl : j = k := by omega
            rw [Int.sign_eq_zero_iff_zero.1 cz]
            show (0 : Int) * _ < _
            rw [Int.zero_mul]
            exact Int.mul_pos (by omega) (ip_pos (by decide) _)) _ (by omega)
      · refine q_aload d_He_reachOfRoots_43 rfl ?_
        refine q_callV (As := []) (c_Nu_bitLength l K hkk hnk) w_cd_Nu_bitLength w_ini_Nu w_ml_He_127 w_im_Nu_bitLength w_se_Nu_bitLength hkk.1.1 rfl hd_Nu_bitLength rfl (Nat.le_of_ble_eq_true rfl) d_He_reachOfRoots_45 (by decide) (by decide) (fun v σ1 hp => ?_)
        obtain ⟨⟨β, rfl, -, hβ, hβ2⟩, hσ⟩ := hp
        rw [hσ]
        clear hσ σ1
        refine q_aload_n d_He_reachOfRoots_48 rfl ?_
        refine q_gr hp0.1 pc_Py 0 (by decide) w_fl_He_40 rfl (by rfl) d_He_reachOfRoots_49 ?_
        refine q_aload_n d_He_reachOfRoots_52 rfl ?_
        refine q_gi hp0.1 pc_Py 1 (by decide) w_fl_He_76 rfl (by rfl) d_He_reachOfRoots_53 ?_
        refine q_topi hd ?_
        refine q_aal (n) 4 (b := a + 24 + 2 + 2 * n) rfl hpg (by omega) (by omega) (by omega) (hpg2 _ (by omega)) d_He_reachOfRoots_56 ?_
        refine q_callV (As := []) (c_Nu_bitLength l K hkn (hP n (Nat.le_refl _))) w_cd_Nu_bitLength w_ini_Nu w_ml_He_127 w_im_Nu_bitLength w_se_Nu_bitLength hkn.1.1 rfl hd_Nu_bitLength rfl (Nat.le_of_ble_eq_true rfl) d_He_reachOfRoots_57 (by decide) (by decide) (fun v σ1 hp => ?_)
        obtain ⟨⟨γ, rfl, -, hγ, hγ2⟩, hσ⟩ := hp
        rw [hσ]
        clear hσ σ1
        refine q_isub d_He_reachOfRoots_60 ?_
        refine q_iconst d_He_reachOfRoots_61 rfl ?_
        refine q_iadd d_He_reachOfRoots_62 ?_
        refine q_ist_5 d_He_reachOfRoots_63 (by decide) rfl ?_
        refine q_iload_n d_He_reachOfRoots_65 rfl ?_
        refine q_iconst d_He_reachOfRoots_66 rfl ?_
        refine q_iload d_He_reachOfRoots_67 rfl ?_
        refine q_ineg d_He_reachOfRoots_69 ?_
        refine q_iload_n d_He_reachOfRoots_70 rfl ?_
        refine q_callS (As := [vi (-((β : Int) - γ + 1)), vi s]) (c_Ma_floorDiv l K (by omega) (by omega)) w_cd_Ma_floorDiv w_ini_Ma w_ml_He_130 w_st_Ma_floorDiv hd_Ma_floorDiv rfl (Nat.le_of_ble_eq_true rfl) d_He_reachOfRoots_71 (by decide) (by decide) (fun v σ1 hp => ?_)
        obtain ⟨rfl, hσ⟩ := hp
        rw [hσ]
        clear hσ σ1
        have hb1 := Int.ediv_le_of_le_mul (a := -((β : Int) - γ + 1)) (b := 2000) (c := s) (by omega) (by omega)
        have hb2 := Int.le_ediv_of_mul_le (a := -2000) (b := -((β : Int) - γ + 1)) (c := s) (by omega) (by omega)
        refine q_isub d_He_reachOfRoots_74 ?_
        refine q_mmax (by omega) (by omega) w_ml_He_80 d_He_reachOfRoots_75 (by decide) (Nat.le_of_ble_eq_true rfl) ?_
        refine q_ist_n_2 d_He_reachOfRoots_78 (by decide) rfl ?_
        refine q_iinc_3 d_He_reachOfRoots_79 (by decide) rfl ?_
        refine q_goto (tgt := 14) d_He_reachOfRoots_82 (by decide) ?_
        refine q_drop_5 ?_
        refine q_drop_4 ?_
        refine ih (k + 1) (by omega) (by omega) (max mo (1 - -((β : Int) - γ + 1) / s)) (by omega) (fun re h1 j h2 h3 => ?_) _ (by omega)
        rcases Nat.lt_or_ge j k with h4 | h4
        · exact hI re (by omega) j h2 h4
        · obtain rfl : j = k := by omega
          exact rok_st (fun h => cz (by rw [h]; rfl)) hβ hl hγ hk1 (by rw [← hs]; omega)
  refine q_aload_n d_He_reachOfRoots_0 rfl ?_
  refine q_gr hH0 pc_He 2 (by decide) w_fl_He_29 rfl (by rfl) d_He_reachOfRoots_1 ?_
  refine q_gr hc0 pc_Ch 0 (by decide) w_fl_He_57 rfl (by rfl) d_He_reachOfRoots_4 ?_
  refine q_iconst d_He_reachOfRoots_7 rfl ?_
  refine q_aal (0) 5 (b := a + 24) rfl hg1 (by omega) (by omega) (by omega) (hg2 0 (by decide)) d_He_reachOfRoots_8 ?_
  refine q_ast_n_1 d_He_reachOfRoots_9 (by decide) rfl ?_
  refine q_iconst d_He_reachOfRoots_10 rfl ?_
  refine q_ist_n_2 d_He_reachOfRoots_11 (by decide) rfl ?_
  refine q_iconst d_He_reachOfRoots_12 rfl ?_
  refine q_ist_n_3 d_He_reachOfRoots_13 (by decide) rfl ?_
  exact loop n 1 (by omega) (Nat.le_refl _) 0 (by omega) (fun re _ j h2 h3 => by omega) 1 rfl
/-- coefficient k becomes v -/
def upP (P : Nat → Int) (k : Nat) (v : Int) : Nat → Int := fun j => if j = k then v else P j
set_option maxHeartbeats 4000000 in
set_option maxRecDepth 100000 in
theorem q_He_change (l : Launch) (K : pw_K) {L : q_L} {σ : q_S} {a k : Nat} {t : Int} {P : Nat → Int} (hL : heL L a) (hk : k < 9) (ht : -2147483648 ≤ t ∧ t < 2147483648) (hP : ∀ j, j < 9 → nV σ (a + 2 + 2 + 2 * j) 48 (P j)) (hG : ∀ j, j < 9 → σ (a + 1) j = P j) (hPb : ∀ j, j < 9 → -2147483648 ≤ P j ∧ P j < 2147483648) (hd : σ (a + 2) 1 = (top P 9 : Int) - 1) : q_C l K L y_He_change b_He_change 3 none 3 [.ref a, vi (k : Int), vi t] σ (fun r σ' => r = none ∧ (∀ j, j < 9 → nV σ' (a + 2 + 2 + 2 * j) 48 (upP P k t j)) ∧ (∀ j, j < 9 → σ' (a + 1) j = upP P k t j) ∧ σ' (a + 2) 1 = (top (upP P k t) 9 : Int) - 1 ∧ ((upP P k t = P ∧ ∀ q, σ' q = σ q) ∨ (σ' a 4 = 0 ∧ (∀ j, j ≠ 4 → σ' a j = σ a j) ∧ ∀ q, (q < a ∨ a + 22 ≤ q) → σ' q = σ q))) := by
  obtain ⟨hH0, hH1, hpp, -, -, -⟩ := hL
  obtain ⟨pg, hpg, hpg2⟩ := hpp.2.1
  have hpn := hpp.2.2.1
  have hkb := hPb k hk
  refine q_start [some (.ref a), some (vi (k : Int)), some (vi t)] (by decide) (Nat.le_of_ble_eq_true rfl) (fun q h => h) ?_
  refine q_aload_n d_He_change_0 rfl ?_
  refine q_gr hH0 pc_He 0 (by decide) w_fl_He_9 rfl (by rfl) d_He_change_1 ?_
  refine q_iload_n d_He_change_4 rfl ?_
  refine q_ial (k) hH1 (by omega) (by omega) (by omega) d_He_change_5 ?_
  refine q_topi (hG k hk) ?_
  refine q_iload_n d_He_change_6 rfl ?_
  refine q_icmp_ne (tgt := 11) (by omega) (by omega) d_He_change_7 (by decide) (fun cv => ?_) (fun cv => ?_)
  · have low : ∀ (σ3 : q_S), nV σ3 (a + 2 + 2 + 2 * k) 48 t → (∀ q, q ≠ a + 2 + 2 + 2 * k → q ≠ a + 2 + 2 + 2 * k + 1 → σ3 q = q_up σ (a + 1) k t q) → ∀ j, j < 9 → nV σ3 (a + 2 + 2 + 2 * j) 48 (upP P k t j) := by
      intro σ3 k1 k2 j hj
      unfold upP
      by_cases hjk : j = k
      · subst hjk; rw [if_pos rfl]; exact k1
      · rw [if_neg hjk]; exact (hP j hj).mv (by rw [k2 _ (by omega) (by omega), q_up_a _ _ (by omega)]) (by rw [k2 _ (by omega) (by omega), q_up_a _ _ (by omega)])
    refine q_aload_n d_He_change_11 rfl ?_
    refine q_gr hH0 pc_He 0 (by decide) w_fl_He_9 rfl (by rfl) d_He_change_12 ?_
    refine q_iload_n d_He_change_15 rfl ?_
    refine q_iload_n d_He_change_16 rfl ?_
    refine q_ias (k) hH1 (by omega) (by omega) (by omega) d_He_change_17 ?_
    refine q_aload_n d_He_change_18 rfl ?_
    refine q_gr hH0 pc_He 1 (by decide) w_fl_He_20 rfl (by rfl) d_He_change_19 ?_
    refine q_gr hpp.1 pc_Py 0 (by decide) w_fl_He_40 rfl (by rfl) d_He_change_22 ?_
    refine q_iload_n d_He_change_25 rfl ?_
    refine q_aal (k) 4 (b := a + 2 + 2 + 2 * k) rfl hpg (by omega) (by omega) (by omega) (hpg2 _ hk) d_He_change_26 ?_
    refine q_iload_n d_He_change_27 rfl ?_
    refine q_i2l (by omega) d_He_change_28 ?_
    refine q_callV (As := [vl t]) (q_Nu_setLong l K _ (hpn k hk) (by decide) (by omega)) w_cd_Nu_setLong w_ini_Nu w_ml_He_44 w_im_Nu_setLong w_se_Nu_setLong (hpn k hk).1.1 rfl hd_Nu_setLong rfl (Nat.le_of_ble_eq_true rfl) d_He_change_29 (by decide) (by decide) (fun v σ1 hp => ?_)
    obtain ⟨rfl, k1, k2⟩ := hp
    refine q_aload_n d_He_change_32 rfl ?_
    refine q_gr hH0 pc_He 1 (by decide) w_fl_He_20 rfl (by rfl) d_He_change_33 ?_
    refine q_bipush d_He_change_36 (by decide) ?_
    refine q_callV (As := [vi 8]) (q_Py_lower l K (F := 9) (P := upP P k t) hpp (by decide) rfl (Nat.le_refl _) (low σ1 k1 k2)) w_cd_Py_lower w_ini_Py w_ml_He_50 w_im_Py_lower w_se_Py_lower hpp.1 rfl hd_Py_lower rfl (Nat.le_of_ble_eq_true rfl) d_He_change_38 (by decide) (by decide) (fun v σ2 hp => ?_)
    obtain ⟨rfl, k3, k4⟩ := hp
    refine q_aload_n d_He_change_41 rfl ?_
    refine q_iconst d_He_change_42 rfl ?_
    refine q_pi hH0 pc_He 4 (by decide) w_fl_He_53 rfl rfl rfl rfl (by rfl) d_He_change_43 ?_
    exact q_vret rfl (⟨rfl, fun j hj => (low σ1 k1 k2 j hj).mv (by rw [q_up_a _ _ (by omega), k4 _ (by omega)]) (by rw [q_up_a _ _ (by omega), k4 _ (by omega)]), fun j hj => by rw [q_up_a _ _ (by omega), k4 _ (by omega), k2 _ (by omega) (by omega)]; show (if a + 1 = a + 1 ∧ j = k then t else σ (a + 1) j) = upP P k t j; unfold upP; by_cases hjk : j = k; rw [if_pos ⟨rfl, hjk⟩, if_pos hjk]; rw [if_neg (fun h => hjk h.2), if_neg hjk]; exact hG j hj, by rw [q_up_a _ _ (by omega)]; exact k3, Or.inr ⟨q_up_self _ _ _ _, fun j hj => by rw [q_up_k _ _ hj, k4 _ (by omega), k2 _ (by omega) (by omega), q_up_a _ _ (by omega)], fun q hq => by rw [q_up_a _ _ (by omega), k4 _ (by omega), k2 _ (by omega) (by omega), q_up_a _ _ (by omega)]⟩⟩) d_He_change_46
  · have hup : upP P k t = P := by
      funext j
      unfold upP
      split
      · rename_i h; rw [h]; omega
      · rfl
    exact q_vret rfl (⟨rfl, by rw [hup]; exact hP, by rw [hup]; exact hG, by rw [hup]; exact hd, Or.inl ⟨hup, fun q => rfl⟩⟩) d_He_change_10
