/-! THE REFERENCE: falls, signAtRatio -/
theorem flr_neg {x : Int} {f : Nat} (hx : x < 0) : x / 2 ^ f = -((x.natAbs / 2 ^ f : Nat) : Int) + (if x.natAbs % 2 ^ f = 0 then 0 else -1) := by
  have hp : (0 : Int) < 2 ^ f := ip_pos (by decide) f
  have hc : ((2 ^ f : Nat) : Int) = (2 : Int) ^ f := by rw [Int.natCast_pow]; rfl
  have h1 : (x.natAbs : Int) = (2 : Int) ^ f * ((x.natAbs / 2 ^ f : Nat) : Int) + ((x.natAbs % 2 ^ f : Nat) : Int) := by
    rw [← hc, ← Int.natCast_mul, ← Int.natCast_add, Nat.div_add_mod]
  have h2 : ((x.natAbs % 2 ^ f : Nat) : Int) < 2 ^ f := by
    rw [← hc]; exact_mod_cast Nat.mod_lt _ (Nat.pow_pos (by decide))
  have h3 : x = -(x.natAbs : Int) := by omega
  generalize ((x.natAbs / 2 ^ f : Nat) : Int) = q at *
  by_cases h0 : x.natAbs % 2 ^ f = 0
  · rw [if_pos h0]
    rw [h0] at h1
    have h4 := (Int.ediv_emod_unique (a := x) (r := 0) (q := -q) hp).2 ⟨by rw [h3, h1, Int.mul_neg]; omega, by omega, by omega⟩
    rw [h4.1]; omega
  · rw [if_neg h0]
    generalize x.natAbs % 2 ^ f = r at *
    have h4 := (Int.ediv_emod_unique (a := x) (r := 2 ^ f - (r : Int)) (q := -q + -1) hp).2 ⟨by rw [h3, h1, Int.mul_add, Int.mul_neg]; omega, by omega, by omega⟩
    exact h4.1
theorem flr_pos {x : Int} {f : Nat} (hx : 0 ≤ x) : x / 2 ^ f = ((x.natAbs / 2 ^ f : Nat) : Int) := by
  rw [Int.natCast_ediv, Int.natCast_pow, show (x.natAbs : Int) = x by omega]; rfl
theorem flr_b {x Y : Int} {d : Nat} {B : Int} (f3 : Y.natAbs = x.natAbs / 2 ^ d) (h : (x.natAbs : Int) < B) : (Y.natAbs : Int) < B := by
  have h1 : Y.natAbs ≤ x.natAbs := by rw [f3]; exact Nat.div_le_self _ _
  omega
theorem flr_g0 {X d sh : Nat} (h : X / 2 ^ d % 2 ^ sh = 0) : (if X % 2 ^ (d + sh) = 0 then (0 : Int) else 1) = if X % 2 ^ d = 0 then 0 else 1 := by
  rw [Nat.pow_add, Nat.mod_mul, h, Nat.mul_zero, Nat.add_zero]
theorem flr_g1 {X d sh : Nat} (h : ¬ X / 2 ^ d % 2 ^ sh = 0) : (if X % 2 ^ (d + sh) = 0 then (0 : Int) else 1) = 1 := by
  have h7 : 0 < 2 ^ d * (X / 2 ^ d % 2 ^ sh) := Nat.mul_pos (Nat.pow_pos (by decide)) (by omega)
  rw [Nat.pow_add, Nat.mod_mul, if_neg (by omega)]
theorem sg_nn {x : Int} {N : Nat} (hx : 0 ≤ x) : x.sign * ((x.natAbs / N : Nat) : Int) = ((x.natAbs / N : Nat) : Int) := by
  rcases Int.lt_or_eq_of_le hx with h | h
  · rw [Int.sign_eq_one_of_pos h, Int.one_mul]
  · rw [← h]; simp
theorem flr_s2 {x Y : Int} {d sh : Nat} (f3 : Y.natAbs = x.natAbs / 2 ^ d) : (Y.sign * ((x.natAbs / 2 ^ (d + sh) : Nat) : Int)).natAbs = x.natAbs / 2 ^ (d + sh) := by
  rw [Int.natAbs_mul, Int.natAbs_natCast]
  rcases Int.lt_trichotomy Y 0 with h | h | h
  · rw [Int.sign_eq_neg_one_of_neg h]; simp
  · rw [h] at f3 ⊢
    have : x.natAbs / 2 ^ (d + sh) = 0 := by rw [Nat.pow_add, ← Nat.div_div_eq_div_mul, ← f3]; simp
    rw [this]; simp
  · rw [Int.sign_eq_one_of_pos h]; simp
theorem flr_s1 {x Y : Int} {d sh : Nat} (f2 : Y = x.sign * (Y.natAbs : Int)) (f3 : Y.natAbs = x.natAbs / 2 ^ d) : Y.sign * ((x.natAbs / 2 ^ (d + sh) : Nat) : Int) = x.sign * ((Y.sign * ((x.natAbs / 2 ^ (d + sh) : Nat) : Int)).natAbs : Int) := by
  rw [flr_s2 f3]
  by_cases h0 : Y = 0
  · have h1 : x.natAbs / 2 ^ (d + sh) = 0 := by rw [Nat.pow_add, ← Nat.div_div_eq_div_mul, ← f3, h0]; simp
    rw [h1]; simp
  · have h2 : Y.sign = x.sign := by
      have h3 : Y.sign = (x.sign * (Y.natAbs : Int)).sign := by rw [← f2]
      rw [Int.sign_mul, Int.sign_sign, Int.sign_eq_one_of_pos (show (0 : Int) < (Y.natAbs : Int) by omega), Int.mul_one] at h3
      exact h3
    rw [h2]
set_option maxHeartbeats 4000000 in
set_option maxRecDepth 100000 in
theorem c_Mo_falls (l : Launch) (K : pw_K) {L : q_L} {σ : q_S} {m a f : Nat} {x : Int} (hL : mL L m) (ha : a < 160) (ha126 : a ≠ 126) (hx : rV σ m a x) (hf : f < 100000) (hxb : (x.natAbs : Int) < 65536 ^ 1023) : q_C l K L y_Mo_falls b_Mo_falls 6 none 3 [.ref m, vi a, vi f] σ (fun v σ' => v = none ∧ rV σ' m a (x / 2 ^ f) ∧ rO σ σ' m ∧ ∀ r, r ≠ a → r ≠ 126 → rE σ σ' m r) := by
  obtain ⟨hM0, hM1, hM2, hM3, hM4, hM5, hM6, hM7, hM8, hM9⟩ := hL
  refine q_start [some (.ref m), some (vi a), some (vi f), none, none, none] (by decide) (Nat.le_of_ble_eq_true rfl) (fun q h => h) ?_
  have loop : ∀ (fu d : Nat) (Y g t : Int) (σ1 : q_S), t ≤ fu → (-100000 < t ∧ t ≤ 100000) → ((0 < t → (d : Int) + t = f) ∧ (t ≤ 0 → d = f)) → rV σ1 m a Y → Y = x.sign * (Y.natAbs : Int) → Y.natAbs = x.natAbs / 2 ^ d → (g = if x.natAbs % 2 ^ d = 0 then 0 else 1) → rO σ σ1 m → (∀ r, r ≠ a → r ≠ 126 → rE σ σ1 m r) → q_T l K L R_Mo b_Mo_falls 6 none 3 (fun v σ' => v = none ∧ rV σ' m a (x / 2 ^ f) ∧ rO σ σ' m ∧ ∀ r, r ≠ a → r ≠ 126 → rE σ σ' m r) 13 [some (.ref m), some (vi a), some (vi f), some (vi x.sign), some (vi g), some (vi t)] [] σ1 := by
    intro fu
    induction fu with
    | zero =>
      intro d Y g t σ1 hfu htr hdt f1 f2 f3 f4 f5 f6
      refine q_iload d_Mo_falls_13 rfl ?_
      refine q_if_le (tgt := 51) (by omega) d_Mo_falls_15 (by decide) (fun c15 => ?_) (fun c15 => absurd c15 (by omega))
      refine q_iload_n d_Mo_falls_51 rfl ?_
      refine q_if_ge (tgt := 60) (by have := sgn_b x; omega) d_Mo_falls_52 (by decide) (fun cw => ?_) (fun cw => ?_)
      · exact q_vret rfl (⟨rfl, by rw [flr_pos (Int.sign_nonneg_iff.1 cw)]; rw [f2, f3, show d = f by omega] at f1; rw [show x.sign * ((x.natAbs / 2 ^ f : Nat) : Int) = ((x.natAbs / 2 ^ f : Nat) : Int) from sg_nn (Int.sign_nonneg_iff.1 cw)] at f1; exact f1, f5, f6⟩) d_Mo_falls_60
      · have hneg : x < 0 := by have h9 := sg3 x; rcases h9 with h9 | h9 | h9 <;> omega
        have hsg := Int.sign_eq_neg_one_of_neg hneg
        have hYb : (Y.natAbs : Int) < 65536 ^ 1023 := flr_b f3 hxb
        refine q_iload d_Mo_falls_55 rfl ?_
        refine q_if_ne (tgt := 61) (by rw [f4]; split <;> omega) d_Mo_falls_57 (by decide) (fun cg => ?_) (fun cg => ?_)
        · refine q_aload_n d_Mo_falls_61 rfl ?_
          refine q_bipush d_Mo_falls_62 (by decide) ?_
          refine q_ldc2 (z := -1) w_kl_Mo_176 (by decide) d_Mo_falls_64 ?_
          refine q_callV (As := [vi 126, vl (-1)]) (q_Mo_set l K σ1 (r := 126) ⟨hM0, hM1, hM2, hM3, hM4, hM5, hM6, hM7, hM8, hM9⟩ (by decide) (by omega)) w_cd_Mo_set w_ini_Mo w_ml_Mo_72 w_im_Mo_set w_se_Mo_set (by assumption) rfl hd_Mo_set rfl (Nat.le_of_ble_eq_true rfl) d_Mo_falls_67 (by decide) (by decide) (fun v σ2 hp => ?_)
          obtain ⟨rfl, k1, k2, -, k3⟩ := hp
          refine q_aload_n d_Mo_falls_70 rfl ?_
          refine q_iload_n d_Mo_falls_71 rfl ?_
          refine q_iload_n d_Mo_falls_72 rfl ?_
          refine q_bipush d_Mo_falls_73 (by decide) ?_
          refine q_iconst d_Mo_falls_75 rfl ?_
          refine q_callV (As := [vi a, vi a, vi 126, vi 1]) (c_Mo_sum l K (r := a) (i := a) (j := 126) (u := 1023) ⟨hM0, hM1, hM2, hM3, hM4, hM5, hM6, hM7, hM8, hM9⟩ ha ha (by decide) (f1.mv (k3 a ha126)) k1 (Or.inl rfl) hYb (by have := ip_le (B := 65536) (by decide) (show 1 ≤ 1023 by decide); omega) (by decide)) w_cd_Mo_sum w_ini_Mo w_ml_Mo_83 w_im_Mo_sum w_se_Mo_sum (by assumption) rfl hd_Mo_sum rfl (Nat.le_of_ble_eq_true rfl) d_Mo_falls_76 (by decide) (by decide) (fun v σ3 hp => ?_)
          obtain ⟨rfl, k4, k5, k6⟩ := hp
          exact q_vret rfl (⟨rfl, by rw [flr_neg hneg, if_neg (show ¬ x.natAbs % 2 ^ f = 0 by rw [show f = d by omega]; intro h0; rw [f4, if_pos h0] at cg; exact cg rfl)]; rw [f2, f3, show d = f by omega, hsg, Int.neg_mul, Int.one_mul, Int.one_mul] at k4; exact k4, (f5.trans k2).trans k5, fun r h1 h2 => ((f6 r h1 h2).trans (k3 r h2)).trans (k6 r h1)⟩) d_Mo_falls_79
        · exact q_vret rfl (⟨rfl, by rw [flr_neg hneg, show x.natAbs % 2 ^ f = 0 by rw [show f = d by omega]; rw [f4] at cg; by_cases h0 : x.natAbs % 2 ^ d = 0; exact h0; rw [if_neg h0] at cg; omega, if_pos rfl, Int.add_zero]; rw [f2, f3, show d = f by omega, hsg, Int.neg_mul, Int.one_mul] at f1; exact f1, f5, f6⟩) d_Mo_falls_60
    | succ fu ih =>
      intro d Y g t σ1 hfu htr hdt f1 f2 f3 f4 f5 f6
      refine q_iload d_Mo_falls_13 rfl ?_
      refine q_if_le (tgt := 51) (by omega) d_Mo_falls_15 (by decide) (fun cl => ?_) (fun cl => ?_)
      · refine q_iload_n d_Mo_falls_51 rfl ?_
        refine q_if_ge (tgt := 60) (by have := sgn_b x; omega) d_Mo_falls_52 (by decide) (fun cw => ?_) (fun cw => ?_)
        · exact q_vret rfl (⟨rfl, by rw [flr_pos (Int.sign_nonneg_iff.1 cw)]; rw [f2, f3, show d = f by omega] at f1; rw [show x.sign * ((x.natAbs / 2 ^ f : Nat) : Int) = ((x.natAbs / 2 ^ f : Nat) : Int) from sg_nn (Int.sign_nonneg_iff.1 cw)] at f1; exact f1, f5, f6⟩) d_Mo_falls_60
        · have hneg : x < 0 := by have h9 := sg3 x; rcases h9 with h9 | h9 | h9 <;> omega
          have hsg := Int.sign_eq_neg_one_of_neg hneg
          have hYb : (Y.natAbs : Int) < 65536 ^ 1023 := flr_b f3 hxb
          refine q_iload d_Mo_falls_55 rfl ?_
          refine q_if_ne (tgt := 61) (by rw [f4]; split <;> omega) d_Mo_falls_57 (by decide) (fun cg => ?_) (fun cg => ?_)
          · refine q_aload_n d_Mo_falls_61 rfl ?_
            refine q_bipush d_Mo_falls_62 (by decide) ?_
            refine q_ldc2 (z := -1) w_kl_Mo_176 (by decide) d_Mo_falls_64 ?_
            refine q_callV (As := [vi 126, vl (-1)]) (q_Mo_set l K σ1 (r := 126) ⟨hM0, hM1, hM2, hM3, hM4, hM5, hM6, hM7, hM8, hM9⟩ (by decide) (by omega)) w_cd_Mo_set w_ini_Mo w_ml_Mo_72 w_im_Mo_set w_se_Mo_set (by assumption) rfl hd_Mo_set rfl (Nat.le_of_ble_eq_true rfl) d_Mo_falls_67 (by decide) (by decide) (fun v σ2 hp => ?_)
            obtain ⟨rfl, k1, k2, -, k3⟩ := hp
            refine q_aload_n d_Mo_falls_70 rfl ?_
            refine q_iload_n d_Mo_falls_71 rfl ?_
            refine q_iload_n d_Mo_falls_72 rfl ?_
            refine q_bipush d_Mo_falls_73 (by decide) ?_
            refine q_iconst d_Mo_falls_75 rfl ?_
            refine q_callV (As := [vi a, vi a, vi 126, vi 1]) (c_Mo_sum l K (r := a) (i := a) (j := 126) (u := 1023) ⟨hM0, hM1, hM2, hM3, hM4, hM5, hM6, hM7, hM8, hM9⟩ ha ha (by decide) (f1.mv (k3 a ha126)) k1 (Or.inl rfl) hYb (by have := ip_le (B := 65536) (by decide) (show 1 ≤ 1023 by decide); omega) (by decide)) w_cd_Mo_sum w_ini_Mo w_ml_Mo_83 w_im_Mo_sum w_se_Mo_sum (by assumption) rfl hd_Mo_sum rfl (Nat.le_of_ble_eq_true rfl) d_Mo_falls_76 (by decide) (by decide) (fun v σ3 hp => ?_)
            obtain ⟨rfl, k4, k5, k6⟩ := hp
            exact q_vret rfl (⟨rfl, by rw [flr_neg hneg, if_neg (show ¬ x.natAbs % 2 ^ f = 0 by rw [show f = d by omega]; intro h0; rw [f4, if_pos h0] at cg; exact cg rfl)]; rw [f2, f3, show d = f by omega, hsg, Int.neg_mul, Int.one_mul, Int.one_mul] at k4; exact k4, (f5.trans k2).trans k5, fun r h1 h2 => ((f6 r h1 h2).trans (k3 r h2)).trans (k6 r h1)⟩) d_Mo_falls_79
          · exact q_vret rfl (⟨rfl, by rw [flr_neg hneg, show x.natAbs % 2 ^ f = 0 by rw [show f = d by omega]; rw [f4] at cg; by_cases h0 : x.natAbs % 2 ^ d = 0; exact h0; rw [if_neg h0] at cg; omega, if_pos rfl, Int.add_zero]; rw [f2, f3, show d = f by omega, hsg, Int.neg_mul, Int.one_mul] at f1; exact f1, f5, f6⟩) d_Mo_falls_60
      · obtain ⟨sh, hsh⟩ : ∃ sh : Nat, sh = (if t < 15 then t.toNat else 15) := ⟨_, rfl⟩
        have hsh15 : sh ≤ 15 ∧ (sh : Int) ≤ t ∧ (t < 15 → (sh : Int) = t) ∧ (15 ≤ t → sh = 15) := by
          rw [hsh]; split <;> omega
        have hp2 : (1 : Int) ≤ 2 ^ sh ∧ (2 : Int) ^ sh ≤ 32768 := ⟨by have := ip_pos (B := 2) (by decide) sh; omega, by have := ip_le (B := 2) (by decide) hsh15.1; omega⟩
        refine q_aload_n d_Mo_falls_18 rfl ?_
        refine q_iload_n d_Mo_falls_19 rfl ?_
        refine q_iconst d_Mo_falls_20 rfl ?_
        refine q_iload d_Mo_falls_21 rfl ?_
        refine q_bipush d_Mo_falls_23 (by decide) ?_
        refine q_jn2 (V := ((sh : Nat) : Int)) 35 (fun jn => ?_) ?_
        · refine q_icmp_ge (tgt := 33) (by omega) (by omega) d_Mo_falls_25 (by decide) (fun c15 => ?_) (fun c15 => ?_)
          · refine q_bipush d_Mo_falls_33 (by decide) ?_
            exact jn _ (by omega)
          · refine q_iload d_Mo_falls_28 rfl ?_
            refine q_goto (tgt := 35) d_Mo_falls_30 (by decide) ?_
            exact jn _ (by omega)
        · refine q_ishl (z := 2 ^ sh) (q_ishl1 (by omega)) d_Mo_falls_35 ?_
          refine q_callV (As := [vi a, vi (2 ^ sh)]) (c_Mo_parts l K (r := a) (x := Y) (s := 2 ^ sh) ⟨hM0, hM1, hM2, hM3, hM4, hM5, hM6, hM7, hM8, hM9⟩ ha f1 (by omega)) w_cd_Mo_parts w_ini_Mo w_ml_Mo_128 w_im_Mo_parts w_se_Mo_parts (by assumption) rfl hd_Mo_parts rfl (Nat.le_of_ble_eq_true rfl) d_Mo_falls_36 (by decide) (by decide) (fun v σ2 hp => ?_)
          obtain ⟨rfl, k1, k2, -, k3⟩ := hp
          have hc : ((2 ^ sh : Nat) : Int) = (2 : Int) ^ sh := by rw [Int.natCast_pow]; rfl
          have hm : (Y.natAbs : Int) % 2 ^ sh = ((x.natAbs / 2 ^ d % 2 ^ sh : Nat) : Int) := by rw [← hc, f3, ← Int.natCast_emod]
          have hq : (Y.natAbs : Int) / 2 ^ sh = ((x.natAbs / 2 ^ (d + sh) : Nat) : Int) := by rw [← hc, f3, ← Int.natCast_ediv, Nat.div_div_eq_div_mul, ← Nat.pow_add]
          rw [hq] at k1
          refine q_topi hm ?_
          have hlt := Nat.mod_lt (x.natAbs / 2 ^ d) (show 0 < 2 ^ sh from Nat.pow_pos (by decide))
          have hlt2 : (2 : Nat) ^ sh ≤ 32768 := by exact_mod_cast (hc ▸ hp2.2)
          have hY' : ∃ Y2 : Int, rV σ2 m a Y2 ∧ Y2 = x.sign * (Y2.natAbs : Int) ∧ Y2.natAbs = x.natAbs / 2 ^ (d + sh) := by
            refine ⟨_, k1, ?_, ?_⟩
            · exact flr_s1 f2 f3
            · exact flr_s2 f3
          obtain ⟨Y2, y1, y2, y3⟩ := hY'
          have nxt : ∀ g2 : Int, (g2 = if x.natAbs % 2 ^ (d + sh) = 0 then 0 else 1) → q_T l K L R_Mo b_Mo_falls 6 none 3 (fun v σ' => v = none ∧ rV σ' m a (x / 2 ^ f) ∧ rO σ σ' m ∧ ∀ r, r ≠ a → r ≠ 126 → rE σ σ' m r) 45 [some (.ref m), some (vi a), some (vi f), some (vi x.sign), some (vi g2), some (vi t)] [] σ2 := by
            intro g2 hg2
            refine q_iinc_5 d_Mo_falls_45 (by decide) rfl ?_
            refine q_goto (tgt := 13) d_Mo_falls_48 (by decide) ?_
            exact ih (d + sh) Y2 g2 (t + -15) σ2 (by omega) (by omega) (by omega) y1 y2 y3 hg2 (f5.trans k2) (fun r h1 h2 => (f6 r h1 h2).trans (k3 r h1))
          refine q_if_le (tgt := 45) (by omega) d_Mo_falls_39 (by decide) (fun cr => ?_) (fun cr => ?_)
          · exact nxt g (f4.trans (flr_g0 (by omega)).symm)
          · refine q_iconst d_Mo_falls_42 rfl ?_
            refine q_ist_4 d_Mo_falls_43 (by decide) rfl ?_
            exact nxt 1 (flr_g1 (by omega)).symm
  refine q_aload_n d_Mo_falls_0 rfl ?_
  refine q_gr (by assumption) pc_Mo 3 (by decide) w_fl_Mo_17 rfl (by rfl) d_Mo_falls_1 ?_
  refine q_iload_n d_Mo_falls_4 rfl ?_
  refine q_ial (a) (by assumption) (by omega) (by omega) (by omega) d_Mo_falls_5 ?_
  refine q_topi hx.sgn ?_
  refine q_ist_n_3 d_Mo_falls_6 (by decide) rfl ?_
  refine q_iconst d_Mo_falls_7 rfl ?_
  refine q_ist_4 d_Mo_falls_8 (by decide) rfl ?_
  refine q_iload_n d_Mo_falls_10 rfl ?_
  refine q_ist_5 d_Mo_falls_11 (by decide) rfl ?_
  exact loop f 0 x 0 f σ (by omega) (by omega) (by omega) hx (Int.sign_mul_natAbs x).symm (by simp) (by simp [Nat.mod_one]) (fun q _ _ _ _ => rfl) (fun r _ _ => rE.rfl)
set_option maxHeartbeats 4000000 in
set_option maxRecDepth 100000 in
theorem c_Mo_signAtRatio (l : Launch) (K : pw_K) {L : q_L} {σ : q_S} {m p a b n u v w uu c : Nat} {O U : Int} {P : Nat → Int} (hL : mL L m) (hp : p < 10) (ha : a < 160) (hb : b < 160) (ha1 : a < 127 ∨ 129 < a) (hb1 : b < 127 ∨ 129 < b) (hn : n ≤ 8) (hd : σ (m + 4) p = n) (hP : ∀ k, k ≤ n → rV σ m (9 * p + k) (P k)) (hO : rV σ m a O) (hU : rV σ m b U) (hH : ∀ i, i ≤ n + 1 → ((hf P n O U i).natAbs : Int) < 65536 ^ u) (hOb : (O.natAbs : Int) < 65536 ^ v) (hUb : (U.natAbs : Int) < 65536 ^ uu) (hUp : ∀ i, i ≤ n → ((U ^ i).natAbs : Int) < 65536 ^ w) (hPb : ∀ k, k ≤ n → ((P k).natAbs : Int) < 65536 ^ c) (huv : u + v ≤ 1023) (hwu : w + uu ≤ 1024) (hcw : c + w ≤ 1023) : q_C l K L y_Mo_signAtRatio b_Mo_signAtRatio 6 (some .int) 3 [.ref m, vi p, vi a, vi b] σ (fun r σ' => r = some (vi (hf P n O U (n + 1)).sign) ∧ rO σ σ' m ∧ ∀ r, (r < 127 ∨ 129 < r) → rE σ σ' m r) := by
  obtain ⟨hM0, hM1, hM2, hM3, hM4, hM5, hM6, hM7, hM8, hM9⟩ := hL
  refine q_start [some (.ref m), some (vi p), some (vi a), some (vi b), none, none] (by decide) (Nat.le_of_ble_eq_true rfl) (fun q h => h) ?_
  have loop : ∀ (r s : Nat), s + r = n → ∀ (σ1 : q_S), rV σ1 m 127 (hf P n O U (s + 1)) → rV σ1 m 128 (U ^ s) → rO σ σ1 m → (∀ r, (r < 127 ∨ 129 < r) → rE σ σ1 m r) → ∀ t : Int, t = (n : Int) - 1 - s → q_T l K L R_Mo b_Mo_signAtRatio 6 (some .int) 3 (fun r σ' => r = some (vi (hf P n O U (n + 1)).sign) ∧ rO σ σ' m ∧ ∀ r, (r < 127 ∨ 129 < r) → rE σ σ' m r) 35 [some (.ref m), some (vi p), some (vi a), some (vi b), some (vi n), some (vi t)] [] σ1 := by
    intro r
    induction r with
    | zero =>
      intro s hs σ1 f1 f2 f3 f4 t ht
      refine q_iload d_Mo_signAtRatio_35 rfl ?_
      refine q_if_lt (tgt := 95) (by omega) d_Mo_signAtRatio_37 (by decide) (fun c37 => ?_) (fun c37 => absurd c37 (by omega))
      refine q_aload_n d_Mo_signAtRatio_95 rfl ?_
      refine q_gr (by assumption) pc_Mo 3 (by decide) w_fl_Mo_17 rfl (by rfl) d_Mo_signAtRatio_96 ?_
      refine q_bipush d_Mo_signAtRatio_99 (by decide) ?_
      refine q_ial (127) (by assumption) (by omega) (by omega) (by omega) d_Mo_signAtRatio_101 ?_
      refine q_topi f1.sgn ?_
      exact q_iret rfl (⟨by rw [show n + 1 = s + 1 by omega], f3, f4⟩) d_Mo_signAtRatio_102
    | succ r ih =>
      intro s hs σ1 f1 f2 f3 f4 t ht
      refine q_iload d_Mo_signAtRatio_35 rfl ?_
      refine q_if_lt (tgt := 95) (by omega) d_Mo_signAtRatio_37 (by decide) (fun c37 => absurd c37 (by omega)) (fun c37 => ?_)
      refine q_aload_n d_Mo_signAtRatio_40 rfl ?_
      refine q_bipush d_Mo_signAtRatio_41 (by decide) ?_
      refine q_bipush d_Mo_signAtRatio_43 (by decide) ?_
      refine q_iload_n d_Mo_signAtRatio_45 rfl ?_
      refine q_callV (As := [vi 127, vi 127, vi a]) (c_Mo_product l K (r := 127) (i := 127) (j := a) (u := u) (v := v) ⟨hM0, hM1, hM2, hM3, hM4, hM5, hM6, hM7, hM8, hM9⟩ (by decide) (by decide) ha f1 (hO.mv (f4 _ ha1)) (hH (s + 1) (by omega)) hOb (by omega)) w_cd_Mo_product w_ini_Mo w_ml_Mo_76 w_im_Mo_product w_se_Mo_product (by assumption) rfl hd_Mo_product rfl (Nat.le_of_ble_eq_true rfl) d_Mo_signAtRatio_46 (by decide) (by decide) (fun v σ2 hp => ?_)
      obtain ⟨rfl, k1, k2, k3⟩ := hp
      refine q_aload_n d_Mo_signAtRatio_49 rfl ?_
      refine q_sipush d_Mo_signAtRatio_50 (by decide) ?_
      refine q_sipush d_Mo_signAtRatio_53 (by decide) ?_
      refine q_iload_n d_Mo_signAtRatio_56 rfl ?_
      refine q_callV (As := [vi 128, vi 128, vi b]) (c_Mo_product l K (r := 128) (i := 128) (j := b) (u := w) (v := uu) ⟨hM0, hM1, hM2, hM3, hM4, hM5, hM6, hM7, hM8, hM9⟩ (by decide) (by decide) hb (f2.mv (k3 128 (by decide))) ((hU.mv (f4 _ hb1)).mv (k3 b (by omega))) (hUp s (by omega)) hUb (by omega)) w_cd_Mo_product w_ini_Mo w_ml_Mo_76 w_im_Mo_product w_se_Mo_product (by assumption) rfl hd_Mo_product rfl (Nat.le_of_ble_eq_true rfl) d_Mo_signAtRatio_57 (by decide) (by decide) (fun v σ3 hp => ?_)
      obtain ⟨rfl, k4, k5, k6⟩ := hp
      rw [show U ^ s * U = U ^ (s + 1) from (Int.pow_succ _ _).symm] at k4
      refine q_aload_n d_Mo_signAtRatio_60 rfl ?_
      refine q_sipush d_Mo_signAtRatio_61 (by decide) ?_
      refine q_bipush d_Mo_signAtRatio_64 (by decide) ?_
      refine q_iload_n d_Mo_signAtRatio_66 rfl ?_
      refine q_imul d_Mo_signAtRatio_67 ?_
      refine q_iload d_Mo_signAtRatio_68 rfl ?_
      refine q_iadd d_Mo_signAtRatio_70 ?_
      refine q_topi (show _ = ((9 * p + (n - (s + 1)) : Nat) : Int) by omega) ?_
      refine q_sipush d_Mo_signAtRatio_71 (by decide) ?_
      refine q_callV (As := [vi 129, vi ((9 * p + (n - (s + 1)) : Nat) : Int), vi 128]) (c_Mo_product l K (r := 129) (i := 9 * p + (n - (s + 1))) (j := 128) (u := c) (v := w) ⟨hM0, hM1, hM2, hM3, hM4, hM5, hM6, hM7, hM8, hM9⟩ (by decide) (by omega) (by decide) ((((hP (n - (s + 1)) (by omega)).mv (f4 _ (by omega))).mv (k3 _ (by omega))).mv (k6 _ (by omega))) k4 (hPb _ (by omega)) (hUp (s + 1) (by omega)) (by omega)) w_cd_Mo_product w_ini_Mo w_ml_Mo_76 w_im_Mo_product w_se_Mo_product (by assumption) rfl hd_Mo_product rfl (Nat.le_of_ble_eq_true rfl) d_Mo_signAtRatio_74 (by decide) (by decide) (fun v σ4 hp => ?_)
      obtain ⟨rfl, k7, k8, k9⟩ := hp
      refine q_aload_n d_Mo_signAtRatio_77 rfl ?_
      refine q_bipush d_Mo_signAtRatio_78 (by decide) ?_
      refine q_bipush d_Mo_signAtRatio_80 (by decide) ?_
      refine q_sipush d_Mo_signAtRatio_82 (by decide) ?_
      refine q_iconst d_Mo_signAtRatio_85 rfl ?_
      refine q_callV (As := [vi 127, vi 127, vi 129, vi 1]) (c_Mo_sum l K (r := 127) (i := 127) (j := 129) (u := 1023) ⟨hM0, hM1, hM2, hM3, hM4, hM5, hM6, hM7, hM8, hM9⟩ (by decide) (by decide) (by decide) ((k1.mv (k6 127 (by decide))).mv (k9 127 (by decide))) k7 (Or.inl rfl) (l16 (mul_lt_pow (hH (s + 1) (by omega)) hOb) (by omega)) (l16 (mul_lt_pow (hPb _ (by omega)) (hUp (s + 1) (by omega))) (by omega)) (by decide)) w_cd_Mo_sum w_ini_Mo w_ml_Mo_83 w_im_Mo_sum w_se_Mo_sum (by assumption) rfl hd_Mo_sum rfl (Nat.le_of_ble_eq_true rfl) d_Mo_signAtRatio_86 (by decide) (by decide) (fun v σ5 hp => ?_)
      obtain ⟨rfl, k10, k11, k12⟩ := hp
      rw [Int.one_mul] at k10
      refine q_iinc_5 d_Mo_signAtRatio_89 (by decide) rfl ?_
      refine q_goto (tgt := 35) d_Mo_signAtRatio_92 (by decide) ?_
      exact ih (s + 1) (by omega) σ5 k10 ((k4.mv (k9 128 (by decide))).mv (k12 128 (by decide))) (((f3.trans k2).trans k5).trans (k8.trans k11)) (fun r h1 => (((f4 r h1).trans (k3 r (by omega))).trans (k6 r (by omega))).trans ((k9 r (by omega)).trans (k12 r (by omega)))) _ (by omega)
  refine q_aload_n d_Mo_signAtRatio_0 rfl ?_
  refine q_gr (by assumption) pc_Mo 4 (by decide) w_fl_Mo_20 rfl (by rfl) d_Mo_signAtRatio_1 ?_
  refine q_iload_n d_Mo_signAtRatio_4 rfl ?_
  refine q_ial (p) (by assumption) (by omega) (by omega) (by omega) d_Mo_signAtRatio_5 ?_
  refine q_topi hd ?_
  refine q_ist_4 d_Mo_signAtRatio_6 (by decide) rfl ?_
  refine q_aload_n d_Mo_signAtRatio_8 rfl ?_
  refine q_bipush d_Mo_signAtRatio_9 (by decide) ?_
  refine q_bipush d_Mo_signAtRatio_11 (by decide) ?_
  refine q_iload_n d_Mo_signAtRatio_13 rfl ?_
  refine q_imul d_Mo_signAtRatio_14 ?_
  refine q_iload d_Mo_signAtRatio_15 rfl ?_
  refine q_iadd d_Mo_signAtRatio_17 ?_
  refine q_topi (show _ = ((9 * p + n : Nat) : Int) by omega) ?_
  refine q_callV (As := [vi 127, vi ((9 * p + n : Nat) : Int)]) (c_Mo_copy l K (r := 127) (i := 9 * p + n) (x := P n) ⟨hM0, hM1, hM2, hM3, hM4, hM5, hM6, hM7, hM8, hM9⟩ (by decide) (by omega) (hP n (Nat.le_refl _))) w_cd_Mo_copy w_ini_Mo w_ml_Mo_69 w_im_Mo_copy w_se_Mo_copy (by assumption) rfl hd_Mo_copy rfl (Nat.le_of_ble_eq_true rfl) d_Mo_signAtRatio_18 (by decide) (by decide) (fun v σ1 hp => ?_)
  obtain ⟨rfl, k1, k2, -, k3⟩ := hp
  refine q_aload_n d_Mo_signAtRatio_21 rfl ?_
  refine q_sipush d_Mo_signAtRatio_22 (by decide) ?_
  refine q_lconst (z := 1) d_Mo_signAtRatio_25 (by decide) ?_
  refine q_callV (As := [vi 128, vl 1]) (q_Mo_set l K σ1 (r := 128) ⟨hM0, hM1, hM2, hM3, hM4, hM5, hM6, hM7, hM8, hM9⟩ (by decide) (by omega)) w_cd_Mo_set w_ini_Mo w_ml_Mo_72 w_im_Mo_set w_se_Mo_set (by assumption) rfl hd_Mo_set rfl (Nat.le_of_ble_eq_true rfl) d_Mo_signAtRatio_26 (by decide) (by decide) (fun v σ2 hp => ?_)
  obtain ⟨rfl, k4, k5, -, k6⟩ := hp
  refine q_iload d_Mo_signAtRatio_29 rfl ?_
  refine q_iconst d_Mo_signAtRatio_31 rfl ?_
  refine q_isub d_Mo_signAtRatio_32 ?_
  refine q_ist_5 d_Mo_signAtRatio_33 (by decide) rfl ?_
  exact loop n 0 (by omega) σ2 (by rw [show hf P n O U (0 + 1) = P n by simp [hf]]; exact k1.mv (k6 127 (by decide))) (by rw [Int.pow_zero]; exact k4) (k2.trans k5) (fun r h1 => (k3 r (by omega)).trans (k6 r (by omega))) _ (by omega)
