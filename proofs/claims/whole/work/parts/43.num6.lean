/-! NUM: setLong; POINT: placeLong -/
section QSG
variable {l : Launch} {K : pw_K} {L : q_L} {own : String} {cc : ByteArray} {nL : Nat} {ret : Option FieldType} {d : Nat} {post : Option Value → q_S → Prop} {pc : Nat} {lv : List (Option Value)} {st : List Value} {σ : q_S}
theorem sgI_ofInt (x : Int) : sgI x = Int32.ofInt x.sign := by
  have h := sg3 x
  unfold sgI
  rcases h with h | h | h
  · rw [h.2]; simp [show ¬ x < 0 by omega, show ¬ x = 0 by omega]
  · rw [h.2, h.1]; decide
  · rw [h.2]; simp [h.1]
theorem q_signum {x : Int} {index : Nat} (hx : -9223372036854775808 ≤ x ∧ x < 9223372036854775808) (hml : Cond.methodLink own index y_Lo_signum ∈ lw_G) (hdg : decode cc pc = .ok (.invokestatic index, 3)) (hd : 2 ≤ d) (hrest : (st.map fun v => v.category).sum ≤ 8) (kk : q_T l K L own cc nL ret d post (pc + 3) lv (vi x.sign :: st) σ) : q_T l K L own cc nL ret d post pc lv (vl x :: st) σ := by
  intro p e s m args below meth c H locs ls f f0 sz X hr hz hS ha hf hl
  refine pw_callSR X hS (As := [vl x]) (rest := st) (r_Lo_signum l K f sz (Int64.ofInt x)) hz w_cd_Lo_signum w_ini_Lo hml w_st_Lo_signum hd_Lo_signum rfl hl.1 hrest hdg ⟨by show 1 + 1 ≤ d; omega, by show 8 + (2 + 11) + 64 * 1 ≤ 64 * d; omega⟩ ⟨Nat.le_refl _, Nat.le_refl _⟩ (q_tp (congrArg Value.int ?_) (kk _ _ _ _ _ _ _ _ _ _ _ _ _ _ X hr hz hS ha hf hl))
  rw [q_tl hx]
  exact sgI_ofInt x
theorem q_lcmpU_eq {x : Int} {off : Int} {tgt : Nat} (hx : 0 ≤ x ∧ x < 18446744073709551616) (hdg : decode cc pc = .ok (.lcmp, 1)) (hdg2 : decode cc (pc + 1) = .ok (.ifCond .eq off, 3)) (ht : ((pc + 1 : Nat) : Int) + off = (tgt : Int)) (kt : x = 0 → q_T l K L own cc nL ret d post tgt lv st σ) (kf : ¬ x = 0 → q_T l K L own cc nL ret d post (pc + 1 + 3) lv st σ) : q_T l K L own cc nL ret d post pc lv (vl 0 :: vl x :: st) σ := by
  intro p e s m args below meth c H locs ls f f0 sz X hr hz hS ha hf hl
  obtain ⟨u, rfl⟩ : ∃ u : Nat, x = u := ⟨x.toNat, by omega⟩
  refine W.lcmp X.1 X.2.1 hdg ?_
  have h0 : Int64.ofInt (u : Int) = 0 ↔ u = 0 := u_z (m := u) (by omega)
  exact lv_if_eq X.1 X.2.1 hdg2 ht (fun h => kt (by have := h0.mp ((lg_cmp_eq _ _).mp h); omega) _ _ _ _ _ _ _ _ _ _ _ _ _ _ X hr hz hS ha hf hl) (fun h => kf (fun q => h ((lg_cmp_eq _ _).mpr (h0.mpr (by omega)))) _ _ _ _ _ _ _ _ _ _ _ _ _ _ X hr hz hS ha hf hl)
end QSG
theorem q_lushr31U {x : Int} (h : 0 ≤ x ∧ x < 18446744073709551616) : ((Int64.ofInt x).toUInt64 >>> ((Int32.ofInt 31).toInt64.toUInt64 &&& Int64.toUInt64 63)).toInt64 = Int64.ofInt (x / 2147483648) := by
  obtain ⟨m, rfl⟩ : ∃ m : Nat, x = m := ⟨x.toNat, by omega⟩
  exact u_shr (m := m) (by omega)
set_option maxHeartbeats 4000000 in
set_option maxRecDepth 100000 in
theorem q_Nu_setLong (l : Launch) (K : pw_K) {L : q_L} (σ : q_S) {a w : Nat} {v : Int} (hL : nL L a w) (hw3 : 3 ≤ w) (hv : -9223372036854775808 ≤ v ∧ v < 9223372036854775808) : q_C l K L y_Nu_setLong b_Nu_setLong 6 none 2 [.ref a, vl v] σ (fun r σ' => r = none ∧ nV σ' a w v ∧ ∀ q, q ≠ a → q ≠ a + 1 → σ' q = σ q) := by
  obtain ⟨⟨hA, hB⟩, hw⟩ := hL
  refine q_start [some (.ref a), some (vl v), none, none, none, none] (by decide) (Nat.le_of_ble_eq_true rfl) (fun q h => h) ?_
  have hfin : ∀ (k : Nat), k ≤ 3 → ∀ (σ1 : q_S) (rs : Int), rs = 0 → σ1 a 1 = k → (∀ q, q ≠ a → q ≠ a + 1 → σ1 q = σ q) → (∀ j, j < k → 0 ≤ σ1 (a + 1) j ∧ σ1 (a + 1) j < 2147483648) → dv 2147483648 (σ1 (a + 1)) k + rs * 2147483648 ^ k = v.natAbs → (0 < k → 2147483648 ^ (k - 1) ≤ (v.natAbs : Int)) → ∀ t : Int, t = k →  q_T l K L R_Nu b_Nu_setLong 6 none 2 (fun r σ' => r = none ∧ nV σ' a w v ∧ ∀ q, q ≠ a → q ≠ a + 1 → σ' q = σ q) 65 [some (.ref a), some (vl v), none, some (vl rs), none, some (vi t)] [] σ1 := by
    intro k hk σ1 rs hz0 f1 f2 f3 f4 f5 t ht
    refine q_aload_n d_Nu_setLong_65 rfl ?_
    refine q_lload_n d_Nu_setLong_66 rfl ?_
    refine q_signum hv w_ml_Nu_28 d_Nu_setLong_67 (by decide) (Nat.le_of_ble_eq_true rfl) ?_
    refine q_pi (by assumption) pc_Nu 2 (by decide) w_fl_Nu_17 rfl rfl rfl rfl (by rfl) d_Nu_setLong_70 ?_
    have hU : nU (q_up σ1 a 2 v.sign) a w k v.natAbs v.sign := ⟨by rw [q_up_ne _ _ (by omega)]; exact f1, q_up_self _ _ _ _, by omega, by rw [q_up_a _ _ (by omega)]; exact f3, by rw [q_up_a _ _ (by omega)]; subst hz0; simpa using f4⟩
    exact q_vret rfl (⟨rfl, ⟨k, hU, hU.top f5⟩, fun q h6 h7 => by rw [q_up_a _ _ h6]; exact f2 q h6 h7⟩) d_Nu_setLong_73
  have loop : ∀ (d k : Nat), k + d = 3 → ∀ (σ1 : q_S) (rs : Int), 0 ≤ rs → σ1 a 1 = k → (∀ q, q ≠ a → q ≠ a + 1 → σ1 q = σ q) → (∀ j, j < k → 0 ≤ σ1 (a + 1) j ∧ σ1 (a + 1) j < 2147483648) → dv 2147483648 (σ1 (a + 1)) k + rs * 2147483648 ^ k = v.natAbs → (0 < k → 2147483648 ^ (k - 1) ≤ (v.natAbs : Int)) → ∀ t : Int, t = k →  q_T l K L R_Nu b_Nu_setLong 6 none 2 (fun r σ' => r = none ∧ nV σ' a w v ∧ ∀ q, q ≠ a → q ≠ a + 1 → σ' q = σ q) 21 [some (.ref a), some (vl v), none, some (vl rs), none, some (vi t)] [] σ1 := by
    intro d
    induction d with
    | zero =>
      intro k hk σ1 rs hr0 f1 f2 f3 f4 f5 t ht
      refine q_iload d_Nu_setLong_21 rfl ?_
      refine q_iconst d_Nu_setLong_23 rfl ?_
      refine q_icmp_ge (tgt := 65) (by omega) (by omega) d_Nu_setLong_24 (by decide) (fun c24 => ?_) (fun c24 => absurd c24 (by omega))
      have hz0 : rs = 0 := by
        rcases Int.lt_or_le 0 rs with h | h
        · have h7 := (dv_range (B := 2147483648) (by decide) f3).1
          have h8 := Int.mul_le_mul_of_nonneg_right (show 1 ≤ rs by omega) (Int.le_of_lt (ip_pos (B := 2147483648) (by decide) k))
          obtain rfl : k = 3 := by omega
          rw [show (2147483648 : Int) ^ 3 = 9903520314283042199192993792 by decide] at h8 f4
          omega
        · omega
      exact hfin k (by omega) σ1 rs hz0 f1 f2 f3 f4 f5 t ht
    | succ d ih =>
      intro k hk σ1 rs hr0 f1 f2 f3 f4 f5 t ht
      refine q_iload d_Nu_setLong_21 rfl ?_
      refine q_iconst d_Nu_setLong_23 rfl ?_
      refine q_icmp_ge (tgt := 65) (by omega) (by omega) d_Nu_setLong_24 (by decide) (fun c24 => absurd c24 (by omega)) (fun c24 => ?_)
      have h7 := (dv_range (B := 2147483648) (by decide) f3).1
      have h9 := ip_pos (B := 2147483648) (by decide) k
      have hrs : rs < 18446744073709551616 := by
        have h8 := Int.mul_le_mul_of_nonneg_left (show 1 ≤ (2147483648 : Int) ^ k by omega) hr0
        omega
      have h7 := (dv_range (B := 2147483648) (by decide) f3).1
      have h9 := ip_pos (B := 2147483648) (by decide) k
      have hrs : rs < 18446744073709551616 := by
        have h8 := Int.mul_le_mul_of_nonneg_left (show 1 ≤ (2147483648 : Int) ^ k by omega) hr0
        omega
      refine q_lload_n d_Nu_setLong_27 rfl ?_
      refine q_lconst (z := 0) d_Nu_setLong_28 (by decide) ?_
      refine q_lcmpU_eq (tgt := 65) (by omega) d_Nu_setLong_29 d_Nu_setLong_30 (by decide) (fun cz => ?_) (fun cz => ?_)
      · exact hfin k (by omega) σ1 rs cz f1 f2 f3 f4 f5 t ht
      · refine q_aload_n d_Nu_setLong_33 rfl ?_
        refine q_gr (by assumption) pc_Nu 0 (by decide) w_fl_Nu_9 rfl (by rfl) d_Nu_setLong_34 ?_
        refine q_iload d_Nu_setLong_37 rfl ?_
        refine q_lload_n d_Nu_setLong_39 rfl ?_
        refine q_ldc2 (z := 2147483647) w_kl_Nu_26 (by decide) d_Nu_setLong_40 ?_
        refine q_land (z := rs % 2147483648) (q_land31 _) d_Nu_setLong_43 ?_
        refine q_l2i d_Nu_setLong_44 ?_
        refine q_ias (k) (by assumption) (by omega) (by omega) (by omega) d_Nu_setLong_45 ?_
        refine q_lload_n d_Nu_setLong_46 rfl ?_
        refine q_bipush d_Nu_setLong_47 (by decide) ?_
        refine q_lushr (z := rs / 2147483648) (q_lushr31U (by omega)) d_Nu_setLong_49 ?_
        refine q_lst_n_3 d_Nu_setLong_50 (by decide) rfl ?_
        refine q_aload_n d_Nu_setLong_51 rfl ?_
        refine q_iload d_Nu_setLong_52 rfl ?_
        refine q_iconst d_Nu_setLong_54 rfl ?_
        refine q_iadd d_Nu_setLong_55 ?_
        refine q_pi (by assumption) pc_Nu 1 (by decide) w_fl_Nu_13 rfl rfl rfl rfl (by rfl) d_Nu_setLong_56 ?_
        refine q_iinc_5 d_Nu_setLong_59 (by decide) rfl ?_
        refine q_goto (tgt := 21) d_Nu_setLong_62 (by decide) ?_
        have h8 := Int.mul_le_mul_of_nonneg_right (show 1 ≤ rs by omega) (Int.le_of_lt h9)
        exact ih (k + 1) (by omega) _ _ (by omega) (by rw [q_up_self]; omega) (fun q h6 h7 => by rw [q_up_a _ _ h6, q_up_a _ _ h7]; exact f2 q h6 h7) (fun j hj => by
          rw [q_up_a _ _ (by omega)]
          exact if e : j = k then by subst e; rw [q_up_self]; omega else by rw [q_up_k _ _ e]; exact f3 j (by omega)) (by
          rw [q_up_a _ _ (by omega), ← f4]
          have := dv_step (B := 2147483648) (g := σ1 (a + 1)) (g' := q_up σ1 (a + 1) k (rs % 2147483648) (a + 1)) (A := v.natAbs) (c := rs) (s := 0) (t := rs / 2147483648) f4 (fun j hj => q_up_k _ _ (by omega)) (by rw [q_up_self]; omega)
          omega) (fun _ => by rw [Nat.add_sub_cancel]; omega) _ (by omega)
  refine q_lload_n d_Nu_setLong_0 rfl ?_
  refine q_lconst (z := 0) d_Nu_setLong_1 (by decide) ?_
  refine q_jnl2 (V := (v.natAbs : Int)) 12 (fun jn => ?_) ?_
  · refine q_lcmp_ge (tgt := 11) (by omega) (by omega) d_Nu_setLong_2 d_Nu_setLong_3 (by decide) (fun c3 => ?_) (fun c3 => ?_)
    · refine q_lload_n d_Nu_setLong_11 rfl ?_
      exact jn _ (by omega)
    · refine q_lload_n d_Nu_setLong_6 rfl ?_
      refine q_lneg d_Nu_setLong_7 ?_
      refine q_goto (tgt := 12) d_Nu_setLong_8 (by decide) ?_
      exact jn _ (by omega)
  · refine q_lst_n_3 d_Nu_setLong_12 (by decide) rfl ?_
    refine q_aload_n d_Nu_setLong_13 rfl ?_
    refine q_iconst d_Nu_setLong_14 rfl ?_
    refine q_pi (by assumption) pc_Nu 1 (by decide) w_fl_Nu_13 rfl rfl rfl rfl (by rfl) d_Nu_setLong_15 ?_
    refine q_iconst d_Nu_setLong_18 rfl ?_
    refine q_ist_5 d_Nu_setLong_19 (by decide) rfl ?_
    exact loop 3 0 (by omega) (q_up σ a 1 0) _ (by omega) (q_up_self _ _ _ _) (fun q h6 h7 => q_up_a _ _ h6) (fun j hj => by omega) (by simp [dv]) (fun h => by omega) _ rfl
def ptL (L : q_L) (x : Nat) : Prop := L x = some (.inl (1, [some (x + 1), none])) ∧ nL L (x + 1) 48
set_option maxHeartbeats 4000000 in
set_option maxRecDepth 100000 in
theorem c_Pt_placeLong (l : Launch) (K : pw_K) {L : q_L} (σ : q_S) {x : Nat} {v ex : Int} (hL : ptL L x) (hv : -9223372036854775808 ≤ v ∧ v < 9223372036854775808) : q_C l K L y_Pt_placeLong b_Pt_placeLong 4 none 3 [.ref x, vl v, vi ex] σ (fun r σ' => r = none ∧ nV σ' (x + 1) 48 v ∧ σ' x 1 = ex ∧ ∀ q, q ≠ x → q ≠ x + 1 → q ≠ x + 2 → σ' q = σ q) := by
  refine q_start [some (.ref x), some (vl v), none, some (vi ex)] (by decide) (Nat.le_of_ble_eq_true rfl) (fun q h => h) ?_
  refine q_aload_n d_Pt_placeLong_0 rfl ?_
  refine q_gr hL.1 pc_Pt 0 (by decide) w_fl_Pt_12 rfl (by rfl) d_Pt_placeLong_1 ?_
  refine q_lload_n d_Pt_placeLong_4 rfl ?_
  refine q_callV (As := [vl v]) (q_Nu_setLong l K σ hL.2 (by decide) hv) w_cd_Nu_setLong w_ini_Nu w_ml_Pt_18 w_im_Nu_setLong w_se_Nu_setLong hL.2.1.1 rfl hd_Nu_setLong rfl (Nat.le_of_ble_eq_true rfl) d_Pt_placeLong_5 (by decide) (by decide) (fun v σ1 hp => ?_)
  obtain ⟨rfl, k1, k2⟩ := hp
  refine q_aload_n d_Pt_placeLong_8 rfl ?_
  refine q_iload_n d_Pt_placeLong_9 rfl ?_
  refine q_pi hL.1 pc_Pt 1 (by decide) w_fl_Pt_22 rfl rfl rfl rfl (by rfl) d_Pt_placeLong_10 ?_
  exact q_vret rfl (⟨rfl, k1.mv (q_up_a _ _ (by omega)) (q_up_a _ _ (by omega)), q_up_self _ _ _ _, fun q h6 h7 h8 => by rw [q_up_a _ _ h6]; exact k2 q h7 h8⟩) d_Pt_placeLong_13
