/-! THE REFERENCE: isolates -/
set_option maxHeartbeats 4000000 in
set_option maxRecDepth 100000 in
theorem a_Mo_iso1 (l : Launch) (K : pw_K) {L : q_L} {σ : q_S} {m p n M : Nat} {P : Nat → Int} {F : Nat → Nat → Int} {d : Nat → Nat} {post : Option Value → q_S → Prop} (hL : mL L m) (hp : p < 2) (hg : gch P n M F d) (h1 : 1 ≤ d 0) {J : Nat} (hJ : J = 1274) (h192 : ∀ σ2, σ2 (m + 7) p = vlo F d M - vhi F d M → (∀ i : Nat, (i : Int) < vlo F d M - vhi F d M → kcl σ2 m p i F d M 0 1274) → mq σ2 m p F d → isoF σ σ2 m p → q_T l K L R_Mo b_Mo_isolates 8 none 6 (post) 192 [some (.ref m), some (vi p), some (vi ((2 + p : Nat) : Int)), some (vi 109), none, none, none, none] [] σ2) : ∀ (fu : Nat) (C : Int) (j : Nat) (σ1 : q_S) (t : Int), t = j → ms J C j ≤ fu → inv49 σ σ1 m p F d M C j (cN F d M (xl C j)) → q_T l K L R_Mo b_Mo_isolates 8 none 6 (post) 49 [some (.ref m), some (vi p), some (vi ((2 + p : Nat) : Int)), some (vi 109), some (vi t), some (vi 1), none, none] [] σ1 := by
  have hLL := hL
  obtain ⟨hM0, hM1, hM2, hM3, hM4, hM5, hM6, hM7, hM8, hM9⟩ := hL
  have hcn := hg.cnt
  have hn8 := hg.2.2.1
  obtain ⟨sN, hsN⟩ := hg.rs
  intro fu
  induction fu with
  | zero =>
    intro C j σ1 t ht hm hi
    have := ms_pos (J := J) (j := j) (C := C) (by have := hi.2.2.1; omega) hi.2.1
    omega
  | succ fu ih =>
    intro C j σ1 t ht hm hi
    obtain ⟨z1, z2, z3, z4, z5, z6, z7, z8, z9⟩ := hi
    have hi : inv49 σ σ1 m p F d M C j (cN F d M (xl C j)) := ⟨z1, z2, z3, z4, z5, z6, z7, z8, z9⟩
    have hmz := mz_lt (J := J) (j := j) (C := C) (by omega) (by omega)
    have p2 : (2 : Int) ^ (j + 1) = 2 ^ j * 2 := Int.pow_succ _ _
    have hf := hg.fitC z1 z2 (by omega)
    have hf1 : hid ((C.natAbs : Int) < 65536 ^ 95) := hf.1
    have hf2 : hid _ := hf.2.1
    have hf3 : hid _ := hf.2.2
    clear hf
    have hw3 : 4 + (j - 44) * d 0 / 16 + 1 ≤ 1020 := by
      have h3 : (j - 44) * d 0 ≤ 1230 * 8 := Nat.mul_le_mul (by omega) (by omega)
      have h4 := Nat.div_le_div_right (c := 16) h3
      omega
    have hv0 : 0 ≤ chg F d C j := vr_mono _ _
    have hv8 : chg F d C j ≤ d 0 := vr_le _
    refine q_iload d_Mo_isolates_49 rfl ?_
    refine q_if_eq (tgt := 192) (by decide) d_Mo_isolates_51 (by decide) (fun c51 => absurd c51 (by decide)) (fun c51 => ?_)
    refine q_aload_n d_Mo_isolates_54 rfl ?_
    refine q_iload_n d_Mo_isolates_55 rfl ?_
    refine q_iload_n d_Mo_isolates_56 rfl ?_
    refine q_iload d_Mo_isolates_57 rfl ?_
    refine q_callV (As := [vi ((2 + p : Nat) : Int), vi 109, vi t]) ((ht ▸ c_Mo_changes l K (p := 2 + p) (c := 109) (j := j) (n := d 0) (cu := 95) (u := 760) (v := 94) (w := 4) (z := 1020) (P := F 0) hLL (by omega) (by decide) (Or.inl rfl) (by omega) z6.1 z6.2 z4 hf1 (by omega) (by decide) (fun k _ => hg.fitP k) hf2 hf3 (by decide) (by decide) hw3 (by decide) : q_C l K L y_Mo_changes b_Mo_changes 12 (some .int) 4 [.ref m, vi ((2 + p : Nat) : Int), vi 109, vi t] σ1 _)) w_cd_Mo_changes w_ini_Mo w_ml_Mo_121 w_im_Mo_changes w_se_Mo_changes hM0 rfl hd_Mo_changes rfl (Nat.le_of_ble_eq_true rfl) d_Mo_isolates_59 (by decide) (by decide) (fun v σ2 hp => ?_)
    obtain ⟨rv, k1, k2⟩ := hp
    have rv : v = some (vi (chg F d C j)) := rv
    subst rv
    have i2 := hi.scr hp (by omega) ⟨k1, fun r h => k2 r (by omega) (by omega)⟩ z1 z2 z3 (z4.mv (k2 _ (by decide) (by decide))) (z5.mv (k2 _ (by decide) (by decide)))
    refine q_ist_6 d_Mo_isolates_62 (by decide) rfl ?_
    refine q_iload d_Mo_isolates_64 rfl ?_
    refine q_iconst d_Mo_isolates_66 rfl ?_
    refine q_icmp_le (tgt := 83) (by omega) (by decide) d_Mo_isolates_67 (by decide) (fun cv => ?_) (fun cv => ?_)
    · refine q_iload d_Mo_isolates_83 rfl ?_
      refine q_iconst d_Mo_isolates_85 rfl ?_
      refine q_icmp_ne (tgt := 98) (by omega) (by decide) d_Mo_isolates_86 (by decide) (fun cw => ?_) (fun cw => ?_)
      · have hz := hg.chg0 (C := C) (j := j) (by omega)
        rw [← hz.1] at i2
        exact a_Mo_iso2 l K hLL hp hg h1 hJ h192 ih j C t _ σ2 ht (by omega) i2
      · have hz := hg.chg1 (C := C) (j := j) (by omega)
        have hr0 := hsN.rts.2.2 (xl C j + wd j)
        have hr1 := hsN.rts.2.2 (xl C j)
        have hr2 := (nm_N (lk F d 0) (cN F d M) (xl C j + wd j)).1
        have hr3 := (nm_N (lk F d 0) (cN F d M) (xl C j)).1
        obtain ⟨tt, htt⟩ : ∃ tt : Nat, cN F d M (xl C j) = tt := ⟨(cN F d M (xl C j)).toNat, by omega⟩
        rw [htt] at i2 hz
        refine q_aload_n d_Mo_isolates_89 rfl ?_
        refine q_iload_n d_Mo_isolates_90 rfl ?_
        refine q_iload_n d_Mo_isolates_91 rfl ?_
        refine q_iload d_Mo_isolates_92 rfl ?_
        refine q_iconst d_Mo_isolates_94 rfl ?_
        refine q_callV (As := [vi p, vi 109, vi t, vi 0]) (c_Mo_keep l K (p := p) (c := 109) (fd := tt) (j := t) (is := 0) hLL hp (by decide) (by omega) i2.2.2.2.2.2.2.1 (Or.inl rfl) i2.2.2.2.1) w_cd_Mo_keep w_ini_Mo w_ml_Mo_124 w_im_Mo_keep w_se_Mo_keep hM0 rfl hd_Mo_keep rfl (Nat.le_of_ble_eq_true rfl) d_Mo_isolates_95 (by decide) (by decide) (fun v σ3 hp => ?_)
        obtain ⟨rfl, k9, k10, k11, k12, k13, k14, k15, k16⟩ := hp
        have i3 := i2.keep hp (by omega) (by omega) ⟨z1, z2, Or.inr ⟨rfl, htt, hz⟩⟩ k9 (k10.trans ht) k11 k12 k13 k14 k15 k16
        rw [← hz] at i3
        exact a_Mo_iso2 l K hLL hp hg h1 hJ h192 ih j C t _ σ3 ht (by omega) i3
    · refine q_aload_n d_Mo_isolates_70 rfl ?_
      refine q_iload_n d_Mo_isolates_71 rfl ?_
      refine q_iload_n d_Mo_isolates_72 rfl ?_
      refine q_iconst d_Mo_isolates_73 rfl ?_
      refine q_callV (As := [vi 109, vi 109, vi 1]) (c_Mo_lift l K (r := 109) (i := 109) (p := 1) (u := 95) hLL (by decide) (by decide) i2.2.2.2.1 hf1 (by decide)) w_cd_Mo_lift w_ini_Mo w_ml_Mo_108 w_im_Mo_lift w_se_Mo_lift hM0 rfl hd_Mo_lift rfl (Nat.le_of_ble_eq_true rfl) d_Mo_isolates_74 (by decide) (by decide) (fun v σ3 hp => ?_)
      obtain ⟨rfl, k3, k4, k5⟩ := hp
      have hjJ : j < 1274 := by
        rcases Nat.lt_or_ge j 1274 with h9 | h9
        · exact h9
        · have := hg.chgJ h1 (C := C) z1 (Int.le_of_lt z2) h9; omega
      have hj0 : j = 0 → C = 0 := fun h0 => by subst h0; rw [Int.pow_zero] at z2; omega
      have i3 : inv49 σ σ3 m p F d M (C * 2 ^ 1) (j + 1) (cN F d M (xl (C * 2 ^ 1) (j + 1))) := by
        rw [xl_dn C hj0]
        exact i2.scr hp (by omega) ⟨k4, fun r h => k5 r (by omega)⟩ (by omega) (by omega) (by omega) k3 (i2.2.2.2.2.1.mv (k5 _ (by decide)))
      refine q_iinc_4 d_Mo_isolates_77 (by decide) rfl ?_
      refine q_goto (tgt := 49) d_Mo_isolates_80 (by decide) ?_
      refine q_drop_6 ?_
      exact ih (C * 2 ^ 1) (j + 1) σ3 _ (by omega) (by rw [ms_dn C (by omega)]; omega) i3
/-- what isolates leaves: the roots of P, each in its cell -/
def mst (σ : q_S) (m p : Nat) (P : Nat → Int) (n : Nat) : Prop := ∃ (M : Nat) (F : Nat → Nat → Int) (d : Nat → Nat), gch P n M F d ∧ (1 ≤ n → 1 ≤ d 0 ∧ mq σ m p F d) ∧ σ (m + 7) p = vlo F d M - vhi F d M ∧ ∀ i : Nat, (i : Int) < vlo F d M - vhi F d M → kcl σ m p i F d M 44 1274
theorem kcl.rf {σ σ' : q_S} {m p i k M lo hi : Nat} {F : Nat → Nat → Int} {d : Nat → Nat} (h : kcl σ m p i F d M lo hi) (hik : i ≠ k) (hi8 : i < 8) (k8 : k < 8) (e1 : ∀ j, j ≠ 8 * p + k → σ' (m + 5) j = σ (m + 5) j ∧ σ' (m + 6) j = σ (m + 6) j) (e2 : ∀ r, r ≠ 96 → r ≠ 103 → r ≠ 104 → r ≠ 105 → r ≠ 110 → r ≠ 111 → (r < 63 ∨ 71 ≤ r) → r ≠ 140 + 8 * p + k → rE σ σ' m r) : kcl σ' m p i F d M lo hi := by
  obtain ⟨C, j, x, a1, a2, a3, a4⟩ := h
  exact ⟨C, j, x, a1.mv (e2 _ (by omega) (by omega) (by omega) (by omega) (by omega) (by omega) (by omega) (by omega)), by rw [(e1 _ (by omega)).1]; exact a2, by rw [(e1 _ (by omega)).2]; exact a3, a4⟩
set_option maxHeartbeats 4000000 in
set_option maxRecDepth 100000 in
theorem a_Mo_iso3 (l : Launch) (K : pw_K) {L : q_L} {σ : q_S} {m p n M : Nat} {P : Nat → Int} {F : Nat → Nat → Int} {d : Nat → Nat} (hL : mL L m) (hp : p < 2) (hg : gch P n M F d) (h1 : 1 ≤ d 0) : ∀ (f k : Nat) (t : Int), t = k → (k : Int) + f = vlo F d M - vhi F d M → ∀ (σ1 : q_S), σ1 (m + 7) p = vlo F d M - vhi F d M → (∀ i : Nat, i < k → kcl σ1 m p i F d M 44 1274) → (∀ i : Nat, (i : Int) < vlo F d M - vhi F d M → kcl σ1 m p i F d M 0 1274) → mq σ1 m p F d → isoF σ σ1 m p → q_T l K L R_Mo b_Mo_isolates 8 none 6 (fun v σ' => v = none ∧ mst σ' m p P n ∧ isoF σ σ' m p) 195 [some (.ref m), some (vi p), some (vi ((2 + p : Nat) : Int)), some (vi 109), none, none, some (vi t), none] [] σ1 := by
  have hLL := hL
  obtain ⟨hM0, hM1, hM2, hM3, hM4, hM5, hM6, hM7, hM8, hM9⟩ := hL
  have hcn := hg.cnt
  have hn8 := hg.2.2.1
  intro f
  induction f with
  | zero =>
    intro k t ht hk σ1 f1 f2 f3 f4 f5
    refine q_iload d_Mo_isolates_195 rfl ?_
    refine q_aload_n d_Mo_isolates_197 rfl ?_
    refine q_gr hM0 pc_Mo 7 (by decide) w_fl_Mo_30 rfl (by rfl) d_Mo_isolates_198 ?_
    refine q_iload_n d_Mo_isolates_201 rfl ?_
    refine q_ial (p) (by assumption) (by omega) (by omega) (by omega) d_Mo_isolates_202 ?_
    refine q_topi f1 ?_
    refine q_icmp_ge (tgt := 239) (by omega) (by omega) d_Mo_isolates_203 (by decide) (fun c203 => ?_) (fun c203 => absurd c203 (by omega))
    exact q_vret rfl (⟨rfl, ⟨M, F, d, hg, fun _ => ⟨h1, f4⟩, f1, fun i hi => f2 i (by omega)⟩, f5⟩) d_Mo_isolates_239
  | succ f ih =>
    intro k t ht hk σ1 f1 f2 f3 f4 f5
    have inner : ∀ (u j : Nat), u + j = 44 ∨ (u = 0 ∧ 44 ≤ j) → ∀ (σ2 : q_S) (C x : Int), j ≤ 1274 → rV σ2 m (140 + 8 * p + k) C → σ2 (m + 5) (8 * p + k) = (j : Int) → σ2 (m + 6) (8 * p + k) = x → rce (lk F d 0) (cN F d M) (k : Int) C j x → σ2 (m + 7) p = vlo F d M - vhi F d M → (∀ i : Nat, i < k → kcl σ2 m p i F d M 44 1274) → (∀ i : Nat, i ≠ k → (i : Int) < vlo F d M - vhi F d M → kcl σ2 m p i F d M 0 1274) → mq σ2 m p F d → isoF σ σ2 m p → q_T l K L R_Mo b_Mo_isolates 8 none 6 (fun v σ' => v = none ∧ mst σ' m p P n ∧ isoF σ σ' m p) 206 [some (.ref m), some (vi p), some (vi ((2 + p : Nat) : Int)), some (vi 109), none, none, some (vi t), none] [] σ2 := by
      intro u
      induction u with
      | zero =>
        intro j hu σ2 C x c1 c2 c3 c4 c5 g1 g2 g3 g4 g5
        have hme : kcl σ2 m p k F d M 44 1274 := ⟨C, j, x, c2, c3, c4, c5, by omega, c1⟩
        refine q_aload_n d_Mo_isolates_206 rfl ?_
        refine q_gr hM0 pc_Mo 5 (by decide) w_fl_Mo_23 rfl (by rfl) d_Mo_isolates_207 ?_
        refine q_bipush d_Mo_isolates_210 (by decide) ?_
        refine q_iload_n d_Mo_isolates_212 rfl ?_
        refine q_imul d_Mo_isolates_213 ?_
        refine q_iload d_Mo_isolates_214 rfl ?_
        refine q_iadd d_Mo_isolates_216 ?_
        refine q_ial (8 * p + k) (by assumption) (by omega) (by omega) (by omega) d_Mo_isolates_217 ?_
        refine q_topi c3 ?_
        refine q_bipush d_Mo_isolates_218 (by decide) ?_
        refine q_icmp_ge (tgt := 233) (by omega) (by decide) d_Mo_isolates_220 (by decide) (fun c220 => ?_) (fun c220 => absurd c220 (by omega))
        refine q_iinc_6 d_Mo_isolates_233 (by decide) rfl ?_
        refine q_goto (tgt := 195) d_Mo_isolates_236 (by decide) ?_
        refine ih (k + 1) _ (by omega) (by omega) σ2 g1 (fun i hi => ?_) (fun i hi => ?_) g4 g5
        · by_cases e : i = k
          · rw [e]; exact hme
          · exact g2 i (by omega)
        · by_cases e : i = k
          · rw [e]; exact ⟨C, j, x, c2, c3, c4, c5, by omega, c1⟩
          · exact g3 i e hi
      | succ u ihu =>
        intro j hu σ2 C x c1 c2 c3 c4 c5 g1 g2 g3 g4 g5
        have hj44 : j < 44 := by omega
        have hfr := hg.fitR c5.1 c5.2.1 (by omega)
        have hx01 : x = 0 ∨ x = 1 := by rcases c5.2.2 with ⟨h9, -⟩ | ⟨h9, -⟩ <;> omega
        have hw3 : 4 + (j + 1) * d 0 / 16 + 2 ≤ 1023 := by
          have h3 : (j + 1) * d 0 ≤ 45 * 8 := Nat.mul_le_mul (by omega) (by omega)
          have h4 := Nat.div_le_div_right (c := 16) h3
          omega
        refine q_aload_n d_Mo_isolates_206 rfl ?_
        refine q_gr hM0 pc_Mo 5 (by decide) w_fl_Mo_23 rfl (by rfl) d_Mo_isolates_207 ?_
        refine q_bipush d_Mo_isolates_210 (by decide) ?_
        refine q_iload_n d_Mo_isolates_212 rfl ?_
        refine q_imul d_Mo_isolates_213 ?_
        refine q_iload d_Mo_isolates_214 rfl ?_
        refine q_iadd d_Mo_isolates_216 ?_
        refine q_ial (8 * p + k) (by assumption) (by omega) (by omega) (by omega) d_Mo_isolates_217 ?_
        refine q_topi c3 ?_
        refine q_bipush d_Mo_isolates_218 (by decide) ?_
        refine q_icmp_ge (tgt := 233) (by omega) (by decide) d_Mo_isolates_220 (by decide) (fun c220 => absurd c220 (by omega)) (fun c220 => ?_)
        refine q_aload_n d_Mo_isolates_223 rfl ?_
        refine q_iload_n d_Mo_isolates_224 rfl ?_
        refine q_iload d_Mo_isolates_225 rfl ?_
        refine q_topi ht ?_
        refine q_callV (As := [vi p, vi k]) (c_Mo_refines l K (p := p) (i := k) (n := d 0) (D := j) (cu := 127) (u := 876) (v := 126) (c := 4) (P := F 0) hLL hp (by omega) (by omega) h1 g4.1 g4.2 (fun k _ => hg.fitP k) c2 c3 c4 hx01 hfr (by omega) (by decide) (by decide) hw3 (by omega)) w_cd_Mo_refines w_ini_Mo w_ml_Mo_134 w_im_Mo_refines w_se_Mo_refines hM0 rfl hd_Mo_refines rfl (Nat.le_of_ble_eq_true rfl) d_Mo_isolates_227 (by decide) (by decide) (fun v σ3 hp => ?_)
        obtain ⟨rfl, k1, k2, k3, k4, k5, k6, k7⟩ := hp
        have hh := hg.hlf h1 c5
        refine q_goto (tgt := 206) d_Mo_isolates_230 (by decide) ?_
        refine ihu (j + 1) (by omega) σ3 _ _ (by omega) k1 (by rw [k2]; omega) k3 hh (by rw [k4 (m + 7) (by omega) (by omega) (by omega) (by omega) (by omega) (by omega) (by omega)]; exact g1) (fun i hi => (g2 i hi).rf (by omega) (by omega) (by omega) k6 k7) (fun i hi hc => (g3 i hi hc).rf hi (by omega) (by omega) k6 k7) ⟨by rw [k5 _ (by omega)]; exact g4.1, fun i hi => (g4.2 i hi).mv (k7 _ (by omega) (by omega) (by omega) (by omega) (by omega) (by omega) (by omega) (by omega))⟩ (g5.trans ⟨fun q a1 a2 a3 a4 a5 a6 a7 a8 => k4 q a1 a2 a3 a4 a5 a6 a8, fun r a1 a2 a3 a4 => k7 r (by omega) (by omega) (by omega) (by omega) (by omega) (by omega) (by omega) (by omega), fun j a1 a2 => k5 j (by omega), fun i a1 => k6 i (by omega), fun i a1 => by rw [k4 (m + 7) (by omega) (by omega) (by omega) (by omega) (by omega) (by omega) (by omega)]⟩)
    obtain ⟨C, j, x, c2, c3, c4, c5, -, c1⟩ := f3 k (by omega)
    refine q_iload d_Mo_isolates_195 rfl ?_
    refine q_aload_n d_Mo_isolates_197 rfl ?_
    refine q_gr hM0 pc_Mo 7 (by decide) w_fl_Mo_30 rfl (by rfl) d_Mo_isolates_198 ?_
    refine q_iload_n d_Mo_isolates_201 rfl ?_
    refine q_ial (p) (by assumption) (by omega) (by omega) (by omega) d_Mo_isolates_202 ?_
    refine q_topi f1 ?_
    refine q_icmp_ge (tgt := 239) (by omega) (by omega) d_Mo_isolates_203 (by decide) (fun c203 => absurd c203 (by omega)) (fun c203 => ?_)
    exact inner (44 - j) j (by omega) σ1 C x c1 c2 c3 c4 c5 f1 f2 (fun i _ hi => f3 i hi) f4 f5
theorem iso_up {σ : q_S} {m p : Nat} {w : Int} : (∀ r, rE σ (q_up σ (m + 7) p w) m r) ∧ isoF σ (q_up σ (m + 7) p w) m p := by
  have h1 : ∀ r, rE σ (q_up σ (m + 7) p w) m r := fun r => ⟨fun v hv => mr_o _ _ (by omega), by rw [q_up_a _ _ (by omega)], by rw [q_up_a _ _ (by omega)]⟩
  exact ⟨h1, fun q _ _ _ _ _ _ a7 _ => q_up_a _ _ a7, fun r _ _ _ _ => h1 r, fun j _ _ => by rw [q_up_a _ _ (by omega)], fun k _ => ⟨by rw [q_up_a _ _ (by omega)], by rw [q_up_a _ _ (by omega)]⟩, fun k hk => q_up_k _ _ hk⟩
set_option maxHeartbeats 4000000 in
set_option maxRecDepth 100000 in
theorem c_Mo_isolates1 (l : Launch) (K : pw_K) {L : q_L} {σ : q_S} {m p n : Nat} {P : Nat → Int} (hL : mL L m) (hp : p < 2) (hn1 : 1 ≤ n) (hd : σ (m + 4) p = (n : Int)) (hP : ∀ k, k ≤ n → rV σ m (9 * p + k) (P k)) (hz : ∀ c, n < c → P c = 0) (hPn : P n ≠ 0) (hn8 : n ≤ 8) (hb : ∀ k, (P k).natAbs ≤ 2147483648) : q_C l K L y_Mo_isolates b_Mo_isolates 8 none 6 [.ref m, vi p] σ (fun v σ' => v = none ∧ mst σ' m p P n ∧ isoF σ σ' m p) := by
  have hLL := hL
  obtain ⟨hM0, hM1, hM2, hM3, hM4, hM5, hM6, hM7, hM8, hM9⟩ := hL
  refine q_start [some (.ref m), some (vi p), none, none, none, none, none, none] (by decide) (Nat.le_of_ble_eq_true rfl) (fun q h => h) ?_
  refine q_aload_n d_Mo_isolates_0 rfl ?_
  refine q_gr hM0 pc_Mo 7 (by decide) w_fl_Mo_30 rfl (by rfl) d_Mo_isolates_1 ?_
  refine q_iload_n d_Mo_isolates_4 rfl ?_
  refine q_iconst d_Mo_isolates_5 rfl ?_
  refine q_ias (p) (by assumption) (by omega) (by omega) (by omega) d_Mo_isolates_6 ?_
  have hu := iso_up (σ := σ) (m := m) (p := p) (w := 0)
  have hu7 : q_up σ (m + 7) p 0 (m + 7) p = 0 := q_up_self _ _ _ _
  have hu4 : q_up σ (m + 7) p 0 (m + 4) = σ (m + 4) := q_up_a _ _ (by omega)
  generalize q_up σ (m + 7) p 0 = σ0 at *
  refine q_aload_n d_Mo_isolates_7 rfl ?_
  refine q_gr hM0 pc_Mo 4 (by decide) w_fl_Mo_20 rfl (by rfl) d_Mo_isolates_8 ?_
  refine q_iload_n d_Mo_isolates_11 rfl ?_
  refine q_ial (p) (by assumption) (by omega) (by omega) (by omega) d_Mo_isolates_12 ?_
  refine q_topi (show _ = (n : Int) by rw [hu4]; exact hd) ?_
  refine q_iconst d_Mo_isolates_13 rfl ?_
  refine q_icmp_ge (tgt := 18) (by omega) (by decide) d_Mo_isolates_14 (by decide) (fun c14 => ?_) (fun c14 => absurd c14 (by omega))
  refine q_aload_n d_Mo_isolates_18 rfl ?_
  refine q_iload_n d_Mo_isolates_19 rfl ?_
  refine q_callV (As := [vi p]) (c_Mo_part l K (p := p) (n := n) (P := P) hLL hp hn1 hn8 (by rw [hu4]; exact hd) (fun k hk => (hP k hk).mv (hu.1 _)) hz hPn hb) w_cd_Mo_part w_ini_Mo w_ml_Mo_118 w_im_Mo_part w_se_Mo_part hM0 rfl hd_Mo_part rfl (Nat.le_of_ble_eq_true rfl) d_Mo_isolates_20 (by decide) (by decide) (fun v σ1 hp => ?_)
  obtain ⟨rfl, ⟨w, mm, hfc, hmm, -, k1, k2⟩, k3, k4, k5⟩ := hp
  obtain ⟨M, F, d, hg, rfl, rfl⟩ := gch_ex hz hPn hn8 hb hfc hmm
  have hcn := hg.cnt
  have hi1 : isoF σ0 σ1 m p := ⟨fun q a1 a2 a3 a4 _ _ _ a8 => k5 q a1 a2 a3 a4 a8, fun r a1 a2 a3 _ => k3 r a1 a2 (by omega), fun j a1 a2 => k4 j a1 (by omega) (by omega) (by omega) (by omega), fun k _ => ⟨by rw [k5 (m + 5) (by omega) (by omega) (by omega) (by omega) (by omega)], by rw [k5 (m + 6) (by omega) (by omega) (by omega) (by omega) (by omega)]⟩, fun k _ => by rw [k5 (m + 7) (by omega) (by omega) (by omega) (by omega) (by omega)]⟩
  have h71 : σ1 (m + 7) p = 0 := by rw [k5 (m + 7) (by omega) (by omega) (by omega) (by omega) (by omega)]; exact hu7
  have hq1 : mq σ1 m p F d := ⟨k1, k2⟩
  refine q_iconst d_Mo_isolates_23 rfl ?_
  refine q_iload_n d_Mo_isolates_24 rfl ?_
  refine q_iadd d_Mo_isolates_25 ?_
  refine q_topi (show (2 : Int) + (p : Int) = ((2 + p : Nat) : Int) by omega) ?_
  refine q_ist_n_2 d_Mo_isolates_26 (by decide) rfl ?_
  refine q_bipush d_Mo_isolates_27 (by decide) ?_
  refine q_ist_n_3 d_Mo_isolates_29 (by decide) rfl ?_
  refine q_aload_n d_Mo_isolates_30 rfl ?_
  refine q_iload_n d_Mo_isolates_31 rfl ?_
  refine q_lconst (z := 0) d_Mo_isolates_32 (by decide) ?_
  refine q_callV (As := [vi 109, vl 0]) (q_Mo_set l K σ1 (r := 109) (v := 0) hLL (by decide) (by decide)) w_cd_Mo_set w_ini_Mo w_ml_Mo_72 w_im_Mo_set w_se_Mo_set hM0 rfl hd_Mo_set rfl (Nat.le_of_ble_eq_true rfl) d_Mo_isolates_33 (by decide) (by decide) (fun v σ2 hp => ?_)
  obtain ⟨rfl, k6, k7, -, k8⟩ := hp
  refine q_aload_n d_Mo_isolates_36 rfl ?_
  refine q_bipush d_Mo_isolates_37 (by decide) ?_
  refine q_lconst (z := 1) d_Mo_isolates_39 (by decide) ?_
  refine q_callV (As := [vi 110, vl 1]) (q_Mo_set l K σ2 (r := 110) (v := 1) hLL (by decide) (by decide)) w_cd_Mo_set w_ini_Mo w_ml_Mo_72 w_im_Mo_set w_se_Mo_set hM0 rfl hd_Mo_set rfl (Nat.le_of_ble_eq_true rfl) d_Mo_isolates_40 (by decide) (by decide) (fun v σ3 hp => ?_)
  obtain ⟨rfl, k9, k10, -, k11⟩ := hp
  have s2 : scr σ1 σ2 m := ⟨k7, fun r h => k8 r (by omega)⟩
  have s3 : scr σ2 σ3 m := ⟨k10, fun r h => k11 r (by omega)⟩
  have hi3 : isoF σ σ3 m p := ((hu.2.trans hi1).trans s2.iso).trans s3.iso
  have i0 : inv49 σ σ3 m p F d M 0 0 (cN F d M (xl 0 0)) := by
    rw [hg.ends0.1]
    exact ⟨by decide, by decide, by decide, k6.mv (k11 _ (by decide)), k9, (hq1.scr hp (by omega) s2).scr hp (by omega) s3, by rw [k10 (m + 7) (by omega) (by omega) (by omega) (by omega), k7 (m + 7) (by omega) (by omega) (by omega) (by omega)]; exact h71, fun i hi => by omega, hi3⟩
  refine q_iconst d_Mo_isolates_43 rfl ?_
  refine q_ist_4 d_Mo_isolates_44 (by decide) rfl ?_
  refine q_iconst d_Mo_isolates_46 rfl ?_
  refine q_ist_5 d_Mo_isolates_47 (by decide) rfl ?_
  refine a_Mo_iso1 l K hLL hp hg hmm rfl (fun σ4 g1 g2 g3 g4 => ?_) (ms 1274 0 0).toNat 0 0 σ3 0 rfl (Int.self_le_toNat _) i0
  refine q_iconst d_Mo_isolates_192 rfl ?_
  refine q_ist_6 d_Mo_isolates_193 (by decide) rfl ?_
  exact a_Mo_iso3 l K hLL hp hg hmm (vlo F d M - vhi F d M).toNat 0 0 rfl (by omega) σ4 g1 (fun i hi => by omega) g2 g3 g4
set_option maxHeartbeats 4000000 in
set_option maxRecDepth 100000 in
theorem c_Mo_isolates0 (l : Launch) (K : pw_K) {L : q_L} {σ : q_S} {m p : Nat} {P : Nat → Int} (hL : mL L m) (hp : p < 2) (hd : σ (m + 4) p = 0) (hz : ∀ c, 0 < c → P c = 0) (hPn : P 0 ≠ 0) (hb : ∀ k, (P k).natAbs ≤ 2147483648) : q_C l K L y_Mo_isolates b_Mo_isolates 8 none 6 [.ref m, vi p] σ (fun v σ' => v = none ∧ mst σ' m p P 0 ∧ isoF σ σ' m p) := by
  have hLL := hL
  obtain ⟨hM0, hM1, hM2, hM3, hM4, hM5, hM6, hM7, hM8, hM9⟩ := hL
  refine q_start [some (.ref m), some (vi p), none, none, none, none, none, none] (by decide) (Nat.le_of_ble_eq_true rfl) (fun q h => h) ?_
  refine q_aload_n d_Mo_isolates_0 rfl ?_
  refine q_gr hM0 pc_Mo 7 (by decide) w_fl_Mo_30 rfl (by rfl) d_Mo_isolates_1 ?_
  refine q_iload_n d_Mo_isolates_4 rfl ?_
  refine q_iconst d_Mo_isolates_5 rfl ?_
  refine q_ias (p) (by assumption) (by omega) (by omega) (by omega) d_Mo_isolates_6 ?_
  have hu := iso_up (σ := σ) (m := m) (p := p) (w := 0)
  have hu7 : q_up σ (m + 7) p 0 (m + 7) p = 0 := q_up_self _ _ _ _
  have hu4 : q_up σ (m + 7) p 0 (m + 4) = σ (m + 4) := q_up_a _ _ (by omega)
  generalize q_up σ (m + 7) p 0 = σ0 at *
  refine q_aload_n d_Mo_isolates_7 rfl ?_
  refine q_gr hM0 pc_Mo 4 (by decide) w_fl_Mo_20 rfl (by rfl) d_Mo_isolates_8 ?_
  refine q_iload_n d_Mo_isolates_11 rfl ?_
  refine q_ial (p) (by assumption) (by omega) (by omega) (by omega) d_Mo_isolates_12 ?_
  refine q_topi (show _ = (0 : Int) by rw [hu4]; exact hd) ?_
  refine q_iconst d_Mo_isolates_13 rfl ?_
  refine q_icmp_ge (tgt := 18) (by decide) (by decide) d_Mo_isolates_14 (by decide) (fun c14 => absurd c14 (by omega)) (fun c14 => ?_)
  exact q_vret rfl (⟨rfl, by
    have hg : gch P 0 0 (fun _ => P) (fun _ => 0) := ⟨hz, hPn, by decide, hb, Or.inl ⟨rfl, rfl, rfl, rfl⟩⟩
    have hcn := hg.cnt
    exact ⟨0, fun _ => P, fun _ => 0, hg, fun h => by omega, by omega, fun i hi => by omega⟩, hu.2⟩) d_Mo_isolates_17
/-- isolates, whatever the degree -/
theorem c_Mo_isolates (l : Launch) (K : pw_K) {L : q_L} {σ : q_S} {m p n : Nat} {P : Nat → Int} (hL : mL L m) (hp : p < 2) (hd : σ (m + 4) p = (n : Int)) (hP : ∀ k, k ≤ n → rV σ m (9 * p + k) (P k)) (hz : ∀ c, n < c → P c = 0) (hPn : P n ≠ 0) (hn8 : n ≤ 8) (hb : ∀ k, (P k).natAbs ≤ 2147483648) : q_C l K L y_Mo_isolates b_Mo_isolates 8 none 6 [.ref m, vi p] σ (fun v σ' => v = none ∧ mst σ' m p P n ∧ isoF σ σ' m p) := by
  rcases Nat.eq_zero_or_pos n with h | h
  · subst h; exact c_Mo_isolates0 l K hL hp hd hz hPn hb
  · exact c_Mo_isolates1 l K hL hp h hd hP hz hPn hn8 hb
