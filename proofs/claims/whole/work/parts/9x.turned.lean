/-! CHAIN: turnedChangesAt, the first link left out -/
set_option maxHeartbeats 4000000 in
set_option maxRecDepth 100000 in
theorem c_Ch_turned (l : Launch) (K : pw_K) {L : q_L} {σ : q_S} {ch B x h n ex u v : Nat} {c : Nat → Nat} {X : Int} {F : Nat → Nat → Int} {d : Nat → Nat} (hn1 : 1 ≤ n) (hL : chL L ch h) (hbL : beL L B) (hx : ptL L x) (hdj : ch + 112 + 2 * h ≤ B ∨ B + 91 ≤ ch) (hdx : x + 3 ≤ B ∨ B + 7 ≤ x) (hdc : x + 3 ≤ ch ∨ ch < x) (hn : σ ch 1 = n) (hn10 : n ≤ 10) (hdN : ∀ k, k < n → d k < chN h k) (hdeg : ∀ k, k < n → σ (ch + chO h k) 1 = (d k : Int)) (hP : ∀ k, k < n → ∀ i, i ≤ d k → nV σ (ch + chO h k + 2 + 2 * i) 48 (F k i)) (hX : nV σ (x + 1) 48 X) (hex : σ x 1 = ex) (hexr : ex < 100000) (hXb : (X.natAbs : Int) < 2147483648 ^ v) (hFb : ∀ k, 1 ≤ k → k < n → ∀ j, j ≤ d k → ((F k j).natAbs : Int) < 2147483648 ^ c k) (hHb : ∀ k, 1 ≤ k → k < n → ∀ i, i ≤ d k → ((hv (F k) (d k) X ex i).natAbs : Int) < 2147483648 ^ u) (huv : u + v ≤ 159) (hcw : ∀ k, 1 ≤ k → k < n → c k + ex * d k / 31 + 1 ≤ 159) : q_C l K L y_Ch_turnedChangesAt b_Ch_turnedChangesAt 8 (some .int) 4 [.ref ch, .ref x, .ref B] σ (fun r σ' => r = some (vi (vr (fun j => (hv (F (j + 1)) (d (j + 1)) X ex (d (j + 1) + 1)).sign * sgn j) (n - 1)).1) ∧ (∀ q, (q ≤ B ∨ B + 7 ≤ q) → σ' q = σ q)) := by
  obtain ⟨hc0, ⟨g, hg1, hg2⟩, hpl⟩ := hL
  have hb0 := hbL.1
  have hbV := hbL.vb
  have h1L : nL L (B + 1) 160 := hbL.2.1 0 (by decide)
  have h3L : nL L (B + 3) 160 := hbL.2.1 1 (by decide)
  have sgn_r2 : ∀ j, -1 ≤ (fun j => (hv (F (j + 1)) (d (j + 1)) X ex (d (j + 1) + 1)).sign * sgn j) j ∧ (fun j => (hv (F (j + 1)) (d (j + 1)) X ex (d (j + 1) + 1)).sign * sgn j) j ≤ 1 := fun j => by
    have a := sgn_b (hv (F (j + 1)) (d (j + 1)) X ex (d (j + 1) + 1))
    show -1 ≤ (hv (F (j + 1)) (d (j + 1)) X ex (d (j + 1) + 1)).sign * sgn j ∧ (hv (F (j + 1)) (d (j + 1)) X ex (d (j + 1) + 1)).sign * sgn j ≤ 1
    rcases sgn_1 j with h | h <;> rw [h] <;> omega
  refine q_start [some (.ref ch), some (.ref x), some (.ref B), none, none, none, none, none] (by decide) (Nat.le_of_ble_eq_true rfl) (fun q h => h) ?_
  have loop : ∀ (r k : Nat), k + r = n - 1 → ∀ σ1 : q_S, (∀ q, (q ≤ B ∨ B + 7 ≤ q) → σ1 q = σ q) → ∀ t : Int, t = (k : Int) + 1 → q_T l K L R_Ch b_Ch_turnedChangesAt 8 (some .int) 4 (fun r σ' => r = some (vi (vr (fun j => (hv (F (j + 1)) (d (j + 1)) X ex (d (j + 1) + 1)).sign * sgn j) (n - 1)).1) ∧ (∀ q, (q ≤ B ∨ B + 7 ≤ q) → σ' q = σ q)) 11 [some (.ref ch), some (.ref x), some (.ref B), some (vi (vr (fun j => (hv (F (j + 1)) (d (j + 1)) X ex (d (j + 1) + 1)).sign * sgn j) k).1), some (vi (vr (fun j => (hv (F (j + 1)) (d (j + 1)) X ex (d (j + 1) + 1)).sign * sgn j) k).2), some (vi (sgn k)), some (vi t), none] [] σ1 := by
    intro r
    induction r with
    | zero =>
      intro k hk σ1 f3 t ht
      refine q_iload d_Ch_turnedChangesAt_11 rfl ?_
      refine q_aload_n d_Ch_turnedChangesAt_13 rfl ?_
      refine q_gi hc0 pc_Ch 1 (by decide) w_fl_Ch_18 rfl (by rfl) d_Ch_turnedChangesAt_14 ?_
      refine q_topi (show _ = (n : Int) by rw [f3 _ (by omega)]; exact hn) ?_
      refine q_icmp_ge (tgt := 76) (by omega) (by omega) d_Ch_turnedChangesAt_17 (by decide) (fun c17 => ?_) (fun c17 => absurd c17 (by omega))
      refine q_iload_n d_Ch_turnedChangesAt_76 rfl ?_
      exact q_iret rfl (⟨by rw [show n - 1 = k by omega], f3⟩) d_Ch_turnedChangesAt_77
    | succ r ih =>
      intro k hk σ1 f3 t ht
      refine q_iload d_Ch_turnedChangesAt_11 rfl ?_
      refine q_aload_n d_Ch_turnedChangesAt_13 rfl ?_
      refine q_gi hc0 pc_Ch 1 (by decide) w_fl_Ch_18 rfl (by rfl) d_Ch_turnedChangesAt_14 ?_
      refine q_topi (show _ = (n : Int) by rw [f3 _ (by omega)]; exact hn) ?_
      refine q_icmp_ge (tgt := 76) (by omega) (by omega) d_Ch_turnedChangesAt_17 (by decide) (fun c17 => absurd c17 (by omega)) (fun c17 => ?_)
      have hs := sgn_r2
      have r1 := vr_r (s := (fun j => (hv (F (j + 1)) (d (j + 1)) X ex (d (j + 1) + 1)).sign * sgn j)) hs k
      have r2 : -1 ≤ (hv (F (k + 1)) (d (k + 1)) X ex (d (k + 1) + 1)).sign * sgn k ∧ (hv (F (k + 1)) (d (k + 1)) X ex (d (k + 1) + 1)).sign * sgn k ≤ 1 := hs k
      have r3 := sgn_1 k
      have pe := chO_end (h := h) (k := k + 1) (by omega)
      have pg := chO_ge (h := h) (k := k + 1)
      have pd := hdN (k + 1) (by omega)
      refine q_aload_n d_Ch_turnedChangesAt_20 rfl ?_
      refine q_aload_n d_Ch_turnedChangesAt_21 rfl ?_
      refine q_gr hc0 pc_Ch 0 (by decide) w_fl_Ch_11 rfl (by rfl) d_Ch_turnedChangesAt_22 ?_
      refine q_iload d_Ch_turnedChangesAt_25 rfl ?_
      refine q_aal (k + 1) 5 (b := ch + chO h (k + 1)) rfl hg1 (by omega) (by omega) (by omega) (hg2 (k + 1) (by omega)) d_Ch_turnedChangesAt_27 ?_
      refine q_aload_n d_Ch_turnedChangesAt_28 rfl ?_
      refine q_callV (As := [.ref (ch + chO h (k + 1)), .ref x]) (c_Be_valueAt l K σ1 (n := d (k + 1)) (z := 0) (u := u) (v := v) (c := c (k + 1)) (X := X) (ex := ex) (P := F (k + 1)) hbV (hpl (k + 1) (by omega)) hx (Or.inl rfl) (hdN (k + 1) (by omega)) (by omega) hdx (by rw [f3 _ (by omega), hdeg (k + 1) (by omega)]; omega) (fun j hj => (hP (k + 1) (by omega) j hj).mv (f3 _ (by omega)) (f3 _ (by omega))) (hX.mv (f3 _ (by omega)) (f3 _ (by omega))) (by rw [f3 _ (by omega)]; exact hex) hexr hXb (hFb (k + 1) (by omega) (by omega)) (hHb (k + 1) (by omega) (by omega)) huv (hcw (k + 1) (by omega) (by omega))) w_cd_Be_valueAt w_ini_Be w_ml_Ch_121 w_im_Be_valueAt w_se_Be_valueAt hb0 rfl hd_Be_valueAt rfl (Nat.le_of_ble_eq_true rfl) d_Ch_turnedChangesAt_29 (by decide) (by decide) (fun v σ2 hp => ?_)
      obtain ⟨⟨na, rfl, hna, k1⟩, k2⟩ := hp
      rw [Nat.sub_zero] at k1
      have hnL : nL L na 160 := by rcases hna with h | h <;> rw [h] <;> assumption
      have g3 : (∀ q, (q ≤ B ∨ B + 7 ≤ q) → σ2 q = σ q) := fun q h1 => by rw [k2 q h1]; exact f3 q h1
      refine q_gi hnL.1.1 pc_Nu 2 (by decide) w_fl_Ch_72 rfl (by rfl) d_Ch_turnedChangesAt_32 ?_
      refine q_topi k1.sgn ?_
      refine q_iload d_Ch_turnedChangesAt_35 rfl ?_
      refine q_imul d_Ch_turnedChangesAt_37 ?_
      refine q_ist_7 d_Ch_turnedChangesAt_38 (by decide) rfl ?_
      have nxt : ∀ {x' y' : Int}, vr (fun j => (hv (F (j + 1)) (d (j + 1)) X ex (d (j + 1) + 1)).sign * sgn j) (k + 1) = (x', y') → ∀ t' : Int, t' = (k : Int) + 2 → q_T l K L R_Ch b_Ch_turnedChangesAt 8 (some .int) 4 (fun r σ' => r = some (vi (vr (fun j => (hv (F (j + 1)) (d (j + 1)) X ex (d (j + 1) + 1)).sign * sgn j) (n - 1)).1) ∧ (∀ q, (q ≤ B ∨ B + 7 ≤ q) → σ' q = σ q)) 11 [some (.ref ch), some (.ref x), some (.ref B), some (vi x'), some (vi y'), some (vi (sgn (k + 1))), some (vi t'), none] [] σ2 := by
        intro x' y' hxy t' ht'
        have := ih (k + 1) (by omega) σ2 g3 t' (by omega)
        rw [hxy] at this
        exact this
      refine q_iload d_Ch_turnedChangesAt_40 rfl ?_
      refine q_if_eq (tgt := 65) (by omega) d_Ch_turnedChangesAt_42 (by decide) (fun cz => ?_) (fun cz => ?_)
      · refine q_iload d_Ch_turnedChangesAt_65 rfl ?_
        refine q_ineg d_Ch_turnedChangesAt_67 ?_
        refine q_topi (sgn_s k).symm ?_
        refine q_ist_5 d_Ch_turnedChangesAt_68 (by decide) rfl ?_
        refine q_iinc_6 d_Ch_turnedChangesAt_70 (by decide) rfl ?_
        refine q_goto (tgt := 11) d_Ch_turnedChangesAt_73 (by decide) ?_
        refine q_drop_7 ?_
        exact nxt (by rw [vr, if_pos cz]) _ (by omega)
      · refine q_iload_n d_Ch_turnedChangesAt_45 rfl ?_
        refine q_iload d_Ch_turnedChangesAt_46 rfl ?_
        refine q_iload d_Ch_turnedChangesAt_48 rfl ?_
        refine q_ineg d_Ch_turnedChangesAt_50 ?_
        refine q_jn2 (V := if (vr (fun j => (hv (F (j + 1)) (d (j + 1)) X ex (d (j + 1) + 1)).sign * sgn j) k).2 = -((hv (F (k + 1)) (d (k + 1)) X ex (d (k + 1) + 1)).sign * sgn k) then 1 else 0) 59 (fun jn => ?_) ?_
        · refine q_icmp_ne (tgt := 58) (by omega) (by omega) d_Ch_turnedChangesAt_51 (by decide) (fun cb => ?_) (fun cb => ?_)
          · refine q_iconst d_Ch_turnedChangesAt_58 rfl ?_
            exact jn _ ((if_neg cb).symm)
          · refine q_iconst d_Ch_turnedChangesAt_54 rfl ?_
            refine q_goto (tgt := 59) d_Ch_turnedChangesAt_55 (by decide) ?_
            exact jn _ ((if_pos cb).symm)
        · refine q_iadd d_Ch_turnedChangesAt_59 ?_
          refine q_ist_n_3 d_Ch_turnedChangesAt_60 (by decide) rfl ?_
          refine q_iload d_Ch_turnedChangesAt_61 rfl ?_
          refine q_ist_4 d_Ch_turnedChangesAt_63 (by decide) rfl ?_
          refine q_iload d_Ch_turnedChangesAt_65 rfl ?_
          refine q_ineg d_Ch_turnedChangesAt_67 ?_
          refine q_topi (sgn_s k).symm ?_
          refine q_ist_5 d_Ch_turnedChangesAt_68 (by decide) rfl ?_
          refine q_iinc_6 d_Ch_turnedChangesAt_70 (by decide) rfl ?_
          refine q_goto (tgt := 11) d_Ch_turnedChangesAt_73 (by decide) ?_
          refine q_drop_7 ?_
          exact nxt (by rw [vr, if_neg cz]) _ (by omega)
  refine q_iconst d_Ch_turnedChangesAt_0 rfl ?_
  refine q_ist_n_3 d_Ch_turnedChangesAt_1 (by decide) rfl ?_
  refine q_iconst d_Ch_turnedChangesAt_2 rfl ?_
  refine q_ist_4 d_Ch_turnedChangesAt_3 (by decide) rfl ?_
  refine q_iconst d_Ch_turnedChangesAt_5 rfl ?_
  refine q_ist_5 d_Ch_turnedChangesAt_6 (by decide) rfl ?_
  refine q_iconst d_Ch_turnedChangesAt_8 rfl ?_
  refine q_ist_6 d_Ch_turnedChangesAt_9 (by decide) rfl ?_
  exact loop (n - 1) 0 (by omega) σ (fun q _ => rfl) _ rfl
