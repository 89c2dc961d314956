/-! THE REFERENCE: lower -/
/-- the low end of cell C at level j, times 2 to the (j - 44) where that is above 0 -/
def lowv (C : Int) (j : Nat) : Int := if j = 0 then -8796093022208 else (C - 2 ^ (j - 1)) * 2 ^ (44 - j)
theorem p2_16 (p : Nat) : ((1 * 2 ^ p : Int).natAbs : Int) < 65536 ^ (p / 16 + 1) := by
  have h0 := ip_pos (B := 2) (by decide) p
  have h1 : (65536 : Int) ^ (p / 16 + 1) = 2 ^ (16 * (p / 16 + 1)) := by rw [show (65536 : Int) = 2 ^ 16 by decide, ← Int.pow_mul]
  have h2 := ip_le (B := 2) (by decide) (show p + 1 ≤ 16 * (p / 16 + 1) by omega)
  rw [Int.pow_succ] at h2
  omega
set_option maxHeartbeats 4000000 in
set_option maxRecDepth 100000 in
theorem c_Mo_lower (l : Launch) (K : pw_K) {L : q_L} {σ : q_S} {m o c j u : Nat} {C : Int} (hL : mL L m) (ho : o < 160) (hc : c < 160) (ho105 : o ≠ 105) (hc105 : c ≠ 105) (hC : rV σ m c C) (hCb : (C.natAbs : Int) < 65536 ^ u) (hju : j / 16 + 1 ≤ u) (hu : u + 5 ≤ 1024) : q_C l K L y_Mo_lower b_Mo_lower 4 (some .int) 3 [.ref m, vi o, vi c, vi j] σ (fun v σ' => v = some (vi ((j - 44 : Nat) : Int)) ∧ rV σ' m o (lowv C j) ∧ rO σ σ' m ∧ ∀ r, r ≠ o → r ≠ 105 → rE σ σ' m r) := by
  obtain ⟨hM0, hM1, hM2, hM3, hM4, hM5, hM6, hM7, hM8, hM9⟩ := hL
  have hdb : ((C - 2 ^ (j - 1)).natAbs : Int) < 65536 ^ (u + 1) := by
    have h1 := p2_16 (j - 1)
    have h2 := ip_le (B := 65536) (by decide) (show (j - 1) / 16 + 1 ≤ u by omega)
    have h3 : (65536 : Int) ^ (u + 1) = 65536 ^ u * 65536 := Int.pow_succ _ _
    generalize (65536 : Int) ^ (u + 1) = E1 at *
    generalize (65536 : Int) ^ u = E2 at *
    generalize (65536 : Int) ^ ((j - 1) / 16 + 1) = E3 at *
    generalize (2 : Int) ^ (j - 1) = E4 at *
    omega
  refine q_start [some (.ref m), some (vi o), some (vi c), some (vi j)] (by decide) (Nat.le_of_ble_eq_true rfl) (fun q h => h) ?_
  refine q_aload_n d_Mo_lower_0 rfl ?_
  refine q_bipush d_Mo_lower_1 (by decide) ?_
  refine q_lconst (z := 1) d_Mo_lower_3 (by decide) ?_
  refine q_callV (As := [vi 105, vl 1]) (q_Mo_set l K σ (r := 105) ⟨hM0, hM1, hM2, hM3, hM4, hM5, hM6, hM7, hM8, hM9⟩ (by decide) (by omega)) w_cd_Mo_set w_ini_Mo w_ml_Mo_72 w_im_Mo_set w_se_Mo_set (by assumption) rfl hd_Mo_set rfl (Nat.le_of_ble_eq_true rfl) d_Mo_lower_4 (by decide) (by decide) (fun v σ1 hp => ?_)
  obtain ⟨rfl, k1, k2, k3, k4⟩ := hp
  refine q_iload_n d_Mo_lower_7 rfl ?_
  refine q_if_ne (tgt := 29) (by omega) d_Mo_lower_8 (by decide) (fun cj => ?_) (fun cj => ?_)
  · refine q_aload_n d_Mo_lower_29 rfl ?_
    refine q_bipush d_Mo_lower_30 (by decide) ?_
    refine q_bipush d_Mo_lower_32 (by decide) ?_
    refine q_iload_n d_Mo_lower_34 rfl ?_
    refine q_iconst d_Mo_lower_35 rfl ?_
    refine q_isub d_Mo_lower_36 ?_
    refine q_topi (show _ = ((j - 1 : Nat) : Int) by omega) ?_
    refine q_callV (As := [vi 105, vi 105, vi ((j - 1 : Nat) : Int)]) (c_Mo_lift l K (r := 105) (i := 105) (p := j - 1) (u := 1) (x := 1) ⟨hM0, hM1, hM2, hM3, hM4, hM5, hM6, hM7, hM8, hM9⟩ (by decide) (by decide) k1 (by decide) (by omega)) w_cd_Mo_lift w_ini_Mo w_ml_Mo_108 w_im_Mo_lift w_se_Mo_lift (by assumption) rfl hd_Mo_lift rfl (Nat.le_of_ble_eq_true rfl) d_Mo_lower_37 (by decide) (by decide) (fun v σ2 hp => ?_)
    obtain ⟨rfl, k5, k6, k7⟩ := hp
    refine q_aload_n d_Mo_lower_40 rfl ?_
    refine q_iload_n d_Mo_lower_41 rfl ?_
    refine q_iload_n d_Mo_lower_42 rfl ?_
    refine q_bipush d_Mo_lower_43 (by decide) ?_
    refine q_iconst d_Mo_lower_45 rfl ?_
    refine q_callV (As := [vi o, vi c, vi 105, vi (-1)]) (c_Mo_sum l K (r := o) (i := c) (j := 105) (u := u) ⟨hM0, hM1, hM2, hM3, hM4, hM5, hM6, hM7, hM8, hM9⟩ ho hc (by decide) ((hC.mv (k4 c hc105)).mv (k7 c hc105)) k5 (Or.inr rfl) hCb (by have := p2_16 (j - 1); have := ip_le (B := 65536) (by decide) (show (j - 1) / 16 + 1 ≤ u by omega); omega) (by omega)) w_cd_Mo_sum w_ini_Mo w_ml_Mo_83 w_im_Mo_sum w_se_Mo_sum (by assumption) rfl hd_Mo_sum rfl (Nat.le_of_ble_eq_true rfl) d_Mo_lower_46 (by decide) (by decide) (fun v σ3 hp => ?_)
    obtain ⟨rfl, k8, k9, k10⟩ := hp
    have e1 : C + -1 * (1 * 2 ^ (j - 1)) = C - 2 ^ (j - 1) := by omega
    rw [e1] at k8
    have hoO : rO σ σ3 m := (k2.trans k6).trans k9
    have hrR : ∀ r, r ≠ o → r ≠ 105 → rE σ σ3 m r := fun r h1 h2 => ((k4 r h2).trans (k7 r h2)).trans (k10 r h1)
    refine q_iload_n d_Mo_lower_49 rfl ?_
    refine q_bipush d_Mo_lower_50 (by decide) ?_
    refine q_icmp_ge (tgt := 65) (by omega) (by omega) d_Mo_lower_52 (by decide) (fun c44 => ?_) (fun c44 => ?_)
    · refine q_iload_n d_Mo_lower_65 rfl ?_
      refine q_bipush d_Mo_lower_66 (by decide) ?_
      refine q_jn2 (V := ((j - 44 : Nat) : Int)) 79 (fun jn => ?_) ?_
      · refine q_icmp_le (tgt := 78) (by omega) (by omega) d_Mo_lower_68 (by decide) (fun c79 => ?_) (fun c79 => ?_)
        · refine q_iconst d_Mo_lower_78 rfl ?_
          exact jn _ (by omega)
        · refine q_iload_n d_Mo_lower_71 rfl ?_
          refine q_bipush d_Mo_lower_72 (by decide) ?_
          refine q_isub d_Mo_lower_74 ?_
          refine q_goto (tgt := 79) d_Mo_lower_75 (by decide) ?_
          exact jn _ (by omega)
      · exact q_iret rfl (⟨rfl, by unfold lowv; rw [if_neg (by omega), show 44 - j = 0 by omega, Int.pow_zero, Int.mul_one]; exact k8, hoO, hrR⟩) d_Mo_lower_79
    · refine q_aload_n d_Mo_lower_55 rfl ?_
      refine q_iload_n d_Mo_lower_56 rfl ?_
      refine q_iload_n d_Mo_lower_57 rfl ?_
      refine q_bipush d_Mo_lower_58 (by decide) ?_
      refine q_iload_n d_Mo_lower_60 rfl ?_
      refine q_isub d_Mo_lower_61 ?_
      refine q_topi (show _ = ((44 - j : Nat) : Int) by omega) ?_
      refine q_callV (As := [vi o, vi o, vi ((44 - j : Nat) : Int)]) (c_Mo_lift l K (r := o) (i := o) (p := 44 - j) (u := u + 1) ⟨hM0, hM1, hM2, hM3, hM4, hM5, hM6, hM7, hM8, hM9⟩ ho ho k8 hdb (by omega)) w_cd_Mo_lift w_ini_Mo w_ml_Mo_108 w_im_Mo_lift w_se_Mo_lift (by assumption) rfl hd_Mo_lift rfl (Nat.le_of_ble_eq_true rfl) d_Mo_lower_62 (by decide) (by decide) (fun v σ4 hp => ?_)
      obtain ⟨rfl, k11, k12, k13⟩ := hp
      refine q_iload_n d_Mo_lower_65 rfl ?_
      refine q_bipush d_Mo_lower_66 (by decide) ?_
      refine q_jn2 (V := ((j - 44 : Nat) : Int)) 79 (fun jn => ?_) ?_
      · refine q_icmp_le (tgt := 78) (by omega) (by omega) d_Mo_lower_68 (by decide) (fun c79 => ?_) (fun c79 => ?_)
        · refine q_iconst d_Mo_lower_78 rfl ?_
          exact jn _ (by omega)
        · refine q_iload_n d_Mo_lower_71 rfl ?_
          refine q_bipush d_Mo_lower_72 (by decide) ?_
          refine q_isub d_Mo_lower_74 ?_
          refine q_goto (tgt := 79) d_Mo_lower_75 (by decide) ?_
          exact jn _ (by omega)
      · exact q_iret rfl (⟨rfl, by unfold lowv; rw [if_neg (by omega)]; exact k11, hoO.trans k12, fun r h1 h2 => (hrR r h1 h2).trans (k13 r h1)⟩) d_Mo_lower_79
  · refine q_aload_n d_Mo_lower_11 rfl ?_
    refine q_iload_n d_Mo_lower_12 rfl ?_
    refine q_bipush d_Mo_lower_13 (by decide) ?_
    refine q_bipush d_Mo_lower_15 (by decide) ?_
    refine q_callV (As := [vi o, vi 105, vi 43]) (c_Mo_lift l K (r := o) (i := 105) (p := 43) (u := 1) (x := 1) ⟨hM0, hM1, hM2, hM3, hM4, hM5, hM6, hM7, hM8, hM9⟩ ho (by decide) k1 (by decide) (by decide)) w_cd_Mo_lift w_ini_Mo w_ml_Mo_108 w_im_Mo_lift w_se_Mo_lift (by assumption) rfl hd_Mo_lift rfl (Nat.le_of_ble_eq_true rfl) d_Mo_lower_17 (by decide) (by decide) (fun v σ2 hp => ?_)
    obtain ⟨rfl, k5, k6, k7⟩ := hp
    refine q_aload_n d_Mo_lower_20 rfl ?_
    refine q_gr (by assumption) pc_Mo 3 (by decide) w_fl_Mo_17 rfl (by rfl) d_Mo_lower_21 ?_
    refine q_iload_n d_Mo_lower_24 rfl ?_
    refine q_iconst d_Mo_lower_25 rfl ?_
    refine q_ias (o) (by assumption) (by omega) (by omega) (by omega) d_Mo_lower_26 ?_
    refine q_iconst d_Mo_lower_27 rfl ?_
    exact q_iret rfl (⟨by rw [show j = 0 by omega]; rfl, by
      unfold lowv
      rw [if_pos (by omega)]
      exact rV.turn (N := 8796093022208) k5 rfl rfl, fun q h1 h2 h3 h4 => by rw [q_up_a _ _ h3, k6 q h1 h2 h3 h4]; exact k2 q h1 h2 h3 h4, fun r h1 h2 => ((k4 r h2).trans (k7 r h1)).trans ⟨fun v hv => mr_o _ _ (by omega), by rw [q_up_a _ _ (by omega)], by rw [q_up_k _ _ h1]⟩⟩) d_Mo_lower_28
