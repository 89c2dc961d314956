/-! THE REFERENCE: guess -/
/-- limb k of a row, 0 below and above it -/
def pz (g : Nat → Int) (n : Nat) (k : Int) : Int := if 0 ≤ k then pd g n k.toNat else 0
theorem pz_r {g : Nat → Int} {n : Nat} (h : ∀ k, k < n → 0 ≤ g k ∧ g k < 65536) (k : Int) : 0 ≤ pz g n k ∧ pz g n k < 65536 := by
  unfold pz
  split
  · exact pd_r16 h _
  · omega
set_option maxHeartbeats 4000000 in
set_option maxRecDepth 100000 in
theorem c_Mo_atZ (l : Launch) (K : pw_K) {L : q_L} {σ : q_S} {m r n : Nat} (k : Int) (hL : mL L m) (hr : r < 160) (hn : σ (m + 2) r = n) (h10 : n ≤ 1024) (hk : -1000 ≤ k ∧ k < 2147483648) : q_C l K L y_Mo_at b_Mo_at 3 (some .int) 0 [.ref m, vi r, vi k] σ (fun v σ' => v = some (vi (pz (mr σ m r) n k)) ∧ σ' = σ) := by
  rcases Int.lt_or_le k 0 with hk0 | hk0
  · obtain ⟨hM0, hM1, hM2, hM3, hM4, hM5, hM6, hM7, hM8, hM9⟩ := hL
    rw [show pz (mr σ m r) n k = 0 from if_neg (by omega)]
    refine q_start [some (.ref m), some (vi r), some (vi k)] (by decide) (Nat.le_of_ble_eq_true rfl) (fun q h => h) ?_
    refine q_iload_n d_Mo_at_0 rfl ?_
    refine q_if_lt (tgt := 29) (by omega) d_Mo_at_1 (by decide) (fun c1 => ?_) (fun c1 => absurd c1 (by omega))
    refine q_iconst d_Mo_at_29 rfl ?_
    exact q_iret rfl (⟨rfl, rfl⟩) d_Mo_at_30
  · rw [show pz (mr σ m r) n k = pd (mr σ m r) n k.toNat from if_pos hk0]
    have := c_Mo_at l K (r := r) (n := n) k.toNat hL hr hn h10 (by omega)
    rw [show ((k.toNat : Nat) : Int) = k by omega] at this
    exact this
/-- the highest limbs of the rest, of the divisor -/
def gav (g : Nat → Int) (n M : Nat) : Nat → Int
  | 0 => 0
  | k + 1 => gav g n M k * 65536 + pz g n ((M : Int) - k)
def gbv (g : Nat → Int) (M : Nat) : Nat → Int
  | 0 => 0
  | k + 1 => gbv g M k * 65536 + pz g M ((M : Int) - (k + 1))
theorem gav_r {g : Nat → Int} {n M : Nat} (h : ∀ k, k < n → 0 ≤ g k ∧ g k < 65536) : ∀ k, k ≤ 3 → 0 ≤ gav g n M k ∧ gav g n M k < 281474976710656 := by
  intro k hk
  have h0 := pz_r h ((M : Int) - (0 : Nat))
  have h1 := pz_r h ((M : Int) - (1 : Nat))
  have h2 := pz_r h ((M : Int) - (2 : Nat))
  rcases (show k = 0 ∨ k = 1 ∨ k = 2 ∨ k = 3 by omega) with rfl | rfl | rfl | rfl <;> simp only [gav] <;> omega
theorem gbv_r {g : Nat → Int} {M : Nat} (h : ∀ k, k < M → 0 ≤ g k ∧ g k < 65536) : ∀ k, k ≤ 2 → 0 ≤ gbv g M k ∧ gbv g M k < 4294967296 := by
  intro k hk
  have h0 := pz_r h ((M : Int) - ((0 : Nat) + 1))
  have h1 := pz_r h ((M : Int) - ((1 : Nat) + 1))
  rcases (show k = 0 ∨ k = 1 ∨ k = 2 by omega) with rfl | rfl | rfl <;> simp only [gbv] <;> omega
set_option maxHeartbeats 4000000 in
set_option maxRecDepth 100000 in
theorem c_Mo_guess (l : Launch) (K : pw_K) {L : q_L} {σ : q_S} {m r j n M : Nat} (hL : mL L m) (hr : r < 160) (hj : j < 160) (h1 : σ (m + 2) r = n) (h3 : n ≤ 1024) (h4 : ∀ k, k < n → 0 ≤ mr σ m r k ∧ mr σ m r k < 65536) (g1 : σ (m + 2) j = M) (g3 : M ≤ 1024) (g4 : ∀ k, k < M → 0 ≤ mr σ m j k ∧ mr σ m j k < 65536) : q_C l K L y_Mo_guess b_Mo_guess 10 (some .int) 1 [.ref m, vi r, vi j] σ (fun v σ' => v = some (vi (if gav (mr σ m r) n M 3 / (gbv (mr σ m j) M 2 + 1) < 1 then 1 else gav (mr σ m r) n M 3 / (gbv (mr σ m j) M 2 + 1))) ∧ σ' = σ) := by
  obtain ⟨hM0, hM1, hM2, hM3, hM4, hM5, hM6, hM7, hM8, hM9⟩ := hL
  refine q_start [some (.ref m), some (vi r), some (vi j), none, none, none, none, none, none, none] (by decide) (Nat.le_of_ble_eq_true rfl) (fun q h => h) ?_
  have loop2 : ∀ (d k : Nat), k + d = 2 → ∀ t : Int, t = (k : Int) + 1 → q_T l K L R_Mo b_Mo_guess 10 (some .int) 1 (fun v σ' => v = some (vi (if gav (mr σ m r) n M 3 / (gbv (mr σ m j) M 2 + 1) < 1 then 1 else gav (mr σ m r) n M 3 / (gbv (mr σ m j) M 2 + 1))) ∧ σ' = σ) 50 [some (.ref m), some (vi r), some (vi j), some (vi (M : Int)), some (vl (gav (mr σ m r) n M 3)), none, some (vl (gbv (mr σ m j) M k)), none, some (vi t), none] [] σ := by
    intro d
    induction d with
    | zero =>
      intro k hk t ht
      refine q_iload d_Mo_guess_50 rfl ?_
      refine q_iconst d_Mo_guess_52 rfl ?_
      refine q_icmp_ge (tgt := 81) (by omega) (by omega) d_Mo_guess_53 (by decide) (fun c53 => ?_) (fun c53 => absurd c53 (by omega))
      obtain rfl : k = 2 := by omega
      have r1 := gav_r (M := M) h4 3 (by omega)
      have r2 := gbv_r g4 2 (by omega)
      have r3 := Int.ediv_nonneg r1.1 (show 0 ≤ gbv (mr σ m j) M 2 + 1 by omega)
      have r4 := Int.ediv_le_self (gbv (mr σ m j) M 2 + 1) r1.1
      refine q_lload d_Mo_guess_81 rfl ?_
      refine q_lload d_Mo_guess_83 rfl ?_
      refine q_lconst (z := 1) d_Mo_guess_85 (by decide) ?_
      refine q_ladd d_Mo_guess_86 ?_
      refine q_ldiv (by omega) (by omega) (by omega) d_Mo_guess_87 ?_
      refine q_topl (show _ = gav (mr σ m r) n M 3 / (gbv (mr σ m j) M 2 + 1) from Int.tdiv_eq_ediv_of_nonneg r1.1) ?_
      refine q_lst_8 d_Mo_guess_88 (by decide) rfl ?_
      refine q_lload d_Mo_guess_90 rfl ?_
      refine q_lconst (z := 1) d_Mo_guess_92 (by decide) ?_
      refine q_lcmp_ge (tgt := 101) (by omega) (by omega) d_Mo_guess_93 d_Mo_guess_94 (by decide) (fun cg => ?_) (fun cg => ?_)
      · refine q_lload d_Mo_guess_101 rfl ?_
        refine q_l2i d_Mo_guess_103 ?_
        exact q_iret rfl (⟨by rw [if_neg (by omega)], rfl⟩) d_Mo_guess_104
      · refine q_iconst d_Mo_guess_97 rfl ?_
        refine q_goto (tgt := 104) d_Mo_guess_98 (by decide) ?_
        exact q_iret rfl (⟨by rw [if_pos (by omega)], rfl⟩) d_Mo_guess_104
    | succ d ih =>
      intro k hk t ht
      refine q_iload d_Mo_guess_50 rfl ?_
      refine q_iconst d_Mo_guess_52 rfl ?_
      refine q_icmp_ge (tgt := 81) (by omega) (by omega) d_Mo_guess_53 (by decide) (fun c53 => absurd c53 (by omega)) (fun c53 => ?_)
      have r1 := gbv_r g4 k (by omega)
      have r2 := pz_r g4 ((M : Int) - (k + 1))
      refine q_lload d_Mo_guess_56 rfl ?_
      refine q_ldc2 (z := 65536) w_kl_Mo_43 (by decide) d_Mo_guess_58 ?_
      refine q_lmul d_Mo_guess_61 ?_
      refine q_aload_n d_Mo_guess_62 rfl ?_
      refine q_iload_n d_Mo_guess_63 rfl ?_
      refine q_iload_n d_Mo_guess_64 rfl ?_
      refine q_iload d_Mo_guess_65 rfl ?_
      refine q_isub d_Mo_guess_67 ?_
      refine q_topi (show _ = (M : Int) - (k + 1) by omega) ?_
      refine q_callV (As := [vi j, vi ((M : Int) - (k + 1))]) (c_Mo_atZ l K (r := j) (n := M) ((M : Int) - (k + 1)) ⟨hM0, hM1, hM2, hM3, hM4, hM5, hM6, hM7, hM8, hM9⟩ (by omega) g1 (by omega) (by omega)) w_cd_Mo_at w_ini_Mo w_ml_Mo_45 w_im_Mo_at w_se_Mo_at (by assumption) rfl hd_Mo_at rfl (Nat.le_of_ble_eq_true rfl) d_Mo_guess_68 (by decide) (by decide) (fun v σ9 hp => ?_)
      obtain ⟨rfl, hσ⟩ := hp
      rw [hσ]
      clear hσ σ9
      refine q_i2l (by omega) d_Mo_guess_71 ?_
      refine q_ladd d_Mo_guess_72 ?_
      refine q_lst_6 d_Mo_guess_73 (by decide) rfl ?_
      refine q_iinc_8 d_Mo_guess_75 (by decide) rfl ?_
      refine q_goto (tgt := 50) d_Mo_guess_78 (by decide) ?_
      exact ih (k + 1) (by omega) _ (by omega)
  have loop1 : ∀ (d k : Nat), k + d = 3 → ∀ t : Int, t = k → q_T l K L R_Mo b_Mo_guess 10 (some .int) 1 (fun v σ' => v = some (vi (if gav (mr σ m r) n M 3 / (gbv (mr σ m j) M 2 + 1) < 1 then 1 else gav (mr σ m r) n M 3 / (gbv (mr σ m j) M 2 + 1))) ∧ σ' = σ) 16 [some (.ref m), some (vi r), some (vi j), some (vi (M : Int)), some (vl (gav (mr σ m r) n M k)), none, some (vl 0), none, some (vi t), none] [] σ := by
    intro d
    induction d with
    | zero =>
      intro k hk t ht
      refine q_iload d_Mo_guess_16 rfl ?_
      refine q_iconst d_Mo_guess_18 rfl ?_
      refine q_icmp_ge (tgt := 47) (by omega) (by omega) d_Mo_guess_19 (by decide) (fun c19 => ?_) (fun c19 => absurd c19 (by omega))
      refine q_iconst d_Mo_guess_47 rfl ?_
      refine q_ist_8 d_Mo_guess_48 (by decide) rfl ?_
      obtain rfl : k = 3 := by omega
      exact loop2 2 0 (by omega) _ rfl
    | succ d ih =>
      intro k hk t ht
      refine q_iload d_Mo_guess_16 rfl ?_
      refine q_iconst d_Mo_guess_18 rfl ?_
      refine q_icmp_ge (tgt := 47) (by omega) (by omega) d_Mo_guess_19 (by decide) (fun c19 => absurd c19 (by omega)) (fun c19 => ?_)
      have r1 := gav_r (M := M) h4 k (by omega)
      have r2 := pz_r h4 ((M : Int) - k)
      refine q_lload d_Mo_guess_22 rfl ?_
      refine q_ldc2 (z := 65536) w_kl_Mo_43 (by decide) d_Mo_guess_24 ?_
      refine q_lmul d_Mo_guess_27 ?_
      refine q_aload_n d_Mo_guess_28 rfl ?_
      refine q_iload_n d_Mo_guess_29 rfl ?_
      refine q_iload_n d_Mo_guess_30 rfl ?_
      refine q_iload d_Mo_guess_31 rfl ?_
      refine q_isub d_Mo_guess_33 ?_
      refine q_topi (show _ = (M : Int) - k by omega) ?_
      refine q_callV (As := [vi r, vi ((M : Int) - k)]) (c_Mo_atZ l K (r := r) (n := n) ((M : Int) - k) ⟨hM0, hM1, hM2, hM3, hM4, hM5, hM6, hM7, hM8, hM9⟩ (by omega) h1 (by omega) (by omega)) w_cd_Mo_at w_ini_Mo w_ml_Mo_45 w_im_Mo_at w_se_Mo_at (by assumption) rfl hd_Mo_at rfl (Nat.le_of_ble_eq_true rfl) d_Mo_guess_34 (by decide) (by decide) (fun v σ9 hp => ?_)
      obtain ⟨rfl, hσ⟩ := hp
      rw [hσ]
      clear hσ σ9
      refine q_i2l (by omega) d_Mo_guess_37 ?_
      refine q_ladd d_Mo_guess_38 ?_
      refine q_lst_4 d_Mo_guess_39 (by decide) rfl ?_
      refine q_iinc_8 d_Mo_guess_41 (by decide) rfl ?_
      refine q_goto (tgt := 16) d_Mo_guess_44 (by decide) ?_
      exact ih (k + 1) (by omega) _ (by omega)
  refine q_aload_n d_Mo_guess_0 rfl ?_
  refine q_gr (by assumption) pc_Mo 2 (by decide) w_fl_Mo_14 rfl (by rfl) d_Mo_guess_1 ?_
  refine q_iload_n d_Mo_guess_4 rfl ?_
  refine q_ial (j) (by assumption) (by omega) (by omega) (by omega) d_Mo_guess_5 ?_
  refine q_topi g1 ?_
  refine q_ist_n_3 d_Mo_guess_6 (by decide) rfl ?_
  refine q_lconst (z := 0) d_Mo_guess_7 (by decide) ?_
  refine q_lst_4 d_Mo_guess_8 (by decide) rfl ?_
  refine q_lconst (z := 0) d_Mo_guess_10 (by decide) ?_
  refine q_lst_6 d_Mo_guess_11 (by decide) rfl ?_
  refine q_iconst d_Mo_guess_13 rfl ?_
  refine q_ist_8 d_Mo_guess_14 (by decide) rfl ?_
  exact loop1 3 0 (by omega) _ rfl
