/-! HELD: countUpTo, sideOf -/
set_option maxHeartbeats 4000000 in
set_option maxRecDepth 100000 in
theorem c_He_countUpTo (l : Launch) (K : pw_K) {L : q_L} {σ : q_S} {a B x n ex u v : Nat} {c : Nat → Nat} {X st : Int} {F : Nat → Nat → Int} {d : Nat → Nat} (hL : heL L a) (hbL : beL L B) (hx : ptL L x) (hdj : a + 177 ≤ B ∨ B + 91 ≤ a) (hdx : x + 3 ≤ B ∨ B + 7 ≤ x) (hdc : x + 3 ≤ a ∨ a + 177 ≤ x) (hst : σ a 7 = st) (hn1 : 1 ≤ n) (hn : σ (a + 22) 1 = n) (hn10 : n ≤ 10) (hdN : ∀ k, k < n → d k < chN 9 k) (hdeg : ∀ k, k < n → σ (a + 22 + chO 9 k) 1 = (d k : Int)) (hP : ∀ k, k < n → ∀ i, i ≤ d k → nV σ (a + 22 + chO 9 k + 2 + 2 * i) 48 (F k i)) (hX : nV σ (x + 1) 48 X) (hex : σ x 1 = ex) (hexr : ex < 100000) (hXb : (X.natAbs : Int) < 2147483648 ^ v) (hFb : ∀ k, k < n → ∀ j, j ≤ d k → ((F k j).natAbs : Int) < 2147483648 ^ c k) (hHb : ∀ k, k < n → ∀ i, i ≤ d k → ((hv (F k) (d k) X ex i).natAbs : Int) < 2147483648 ^ u) (huv : u + v ≤ 159) (hcw : ∀ k, k < n → c k + ex * d k / 31 + 1 ≤ 159) : q_C l K L y_He_countUpTo b_He_countUpTo 3 (some .int) 5 [.ref a, .ref x, .ref B] σ (fun r σ' => r = some (vi (st - (vr (fun k => (hv (F k) (d k) X ex (d k + 1)).sign) n).1)) ∧ σ' (a + 22) 1 = n ∧ σ' (a + 22) 2 = (hv (F 0) (d 0) X ex (d 0 + 1)).sign ∧ (∀ q, (q ≤ B ∨ B + 7 ≤ q) → q ≠ a + 22 → σ' q = σ q)) := by
  obtain ⟨hH0, -, -, hch, -, -⟩ := hL
  have hc0 := hch.1
  refine q_start [some (.ref a), some (.ref x), some (.ref B)] (by decide) (Nat.le_of_ble_eq_true rfl) (fun q h => h) ?_
  refine q_aload_n d_He_countUpTo_0 rfl ?_
  refine q_gi hH0 pc_He 7 (by decide) w_fl_He_102 rfl (by rfl) d_He_countUpTo_1 ?_
  refine q_topi hst ?_
  refine q_aload_n d_He_countUpTo_4 rfl ?_
  refine q_gr hH0 pc_He 2 (by decide) w_fl_He_29 rfl (by rfl) d_He_countUpTo_5 ?_
  refine q_aload_n d_He_countUpTo_8 rfl ?_
  refine q_aload_n d_He_countUpTo_9 rfl ?_
  refine q_callV (As := [.ref x, .ref B]) (c_Ch_changesAt l K (ch := a + 22) (h := 9) (n := n) (ex := ex) (u := u) (v := v) (c := c) (X := X) (F := F) (d := d) hn1 hch hbL hx (by omega) hdx (by omega) hn hn10 hdN hdeg hP hX hex hexr hXb hFb hHb huv hcw) w_cd_Ch_changesAt w_ini_Ch w_ml_He_133 w_im_Ch_changesAt w_se_Ch_changesAt hc0 rfl hd_Ch_changesAt rfl (Nat.le_of_ble_eq_true rfl) d_He_countUpTo_10 (by decide) (by decide) (fun v σ1 hp => ?_)
  obtain ⟨rfl, k1, k2, k3⟩ := hp
  refine q_isub d_He_countUpTo_13 ?_
  exact q_iret rfl (⟨rfl, k1, k2, k3⟩) d_He_countUpTo_14
set_option maxHeartbeats 4000000 in
set_option maxRecDepth 100000 in
theorem c_He_sideOf (l : Launch) (K : pw_K) {L : q_L} {σ : q_S} {a B x n ex u v : Nat} {c : Nat → Nat} {X st i : Int} {F : Nat → Nat → Int} {d : Nat → Nat} (hst2 : 0 ≤ st ∧ st < 100) (hi : -2147483648 ≤ i ∧ i < 2147483648) (hL : heL L a) (hbL : beL L B) (hx : ptL L x) (hdj : a + 177 ≤ B ∨ B + 91 ≤ a) (hdx : x + 3 ≤ B ∨ B + 7 ≤ x) (hdc : x + 3 ≤ a ∨ a + 177 ≤ x) (hst : σ a 7 = st) (hn1 : 1 ≤ n) (hn : σ (a + 22) 1 = n) (hn10 : n ≤ 10) (hdN : ∀ k, k < n → d k < chN 9 k) (hdeg : ∀ k, k < n → σ (a + 22 + chO 9 k) 1 = (d k : Int)) (hP : ∀ k, k < n → ∀ i, i ≤ d k → nV σ (a + 22 + chO 9 k + 2 + 2 * i) 48 (F k i)) (hX : nV σ (x + 1) 48 X) (hex : σ x 1 = ex) (hexr : ex < 100000) (hXb : (X.natAbs : Int) < 2147483648 ^ v) (hFb : ∀ k, k < n → ∀ j, j ≤ d k → ((F k j).natAbs : Int) < 2147483648 ^ c k) (hHb : ∀ k, k < n → ∀ i, i ≤ d k → ((hv (F k) (d k) X ex i).natAbs : Int) < 2147483648 ^ u) (huv : u + v ≤ 159) (hcw : ∀ k, k < n → c k + ex * d k / 31 + 1 ≤ 159) : q_C l K L y_He_sideOf b_He_sideOf 6 (some .int) 5 [.ref a, vi i, .ref x, .ref B] σ (fun r σ' => r = some (vi (if i < (if (hv (F 0) (d 0) X ex (d 0 + 1)).sign = 0 then (st - (vr (fun k => (hv (F k) (d k) X ex (d k + 1)).sign) n).1) - 1 else (st - (vr (fun k => (hv (F k) (d k) X ex (d k + 1)).sign) n).1)) then -1 else if i < (st - (vr (fun k => (hv (F k) (d k) X ex (d k + 1)).sign) n).1) then 0 else 1)) ∧ σ' (a + 22) 1 = n ∧ σ' (a + 22) 2 = (hv (F 0) (d 0) X ex (d 0 + 1)).sign ∧ (∀ q, (q ≤ B ∨ B + 7 ≤ q) → q ≠ a + 22 → σ' q = σ q)) := by
  obtain ⟨hH0, -, -, hch, -, -⟩ := hL
  have hc0 := hch.1
  have r1 := vr_r (s := (fun k => (hv (F k) (d k) X ex (d k + 1)).sign)) (fun k => sgn_b _) n
  have r2 := sgn_b (hv (F 0) (d 0) X ex (d 0 + 1))
  refine q_start [some (.ref a), some (vi i), some (.ref x), some (.ref B), none, none] (by decide) (Nat.le_of_ble_eq_true rfl) (fun q h => h) ?_
  refine q_aload_n d_He_sideOf_0 rfl ?_
  refine q_gi hH0 pc_He 7 (by decide) w_fl_He_102 rfl (by rfl) d_He_sideOf_1 ?_
  refine q_topi hst ?_
  refine q_aload_n d_He_sideOf_4 rfl ?_
  refine q_gr hH0 pc_He 2 (by decide) w_fl_He_29 rfl (by rfl) d_He_sideOf_5 ?_
  refine q_aload_n d_He_sideOf_8 rfl ?_
  refine q_aload_n d_He_sideOf_9 rfl ?_
  refine q_callV (As := [.ref x, .ref B]) (c_Ch_changesAt l K (ch := a + 22) (h := 9) (n := n) (ex := ex) (u := u) (v := v) (c := c) (X := X) (F := F) (d := d) hn1 hch hbL hx (by omega) hdx (by omega) hn hn10 hdN hdeg hP hX hex hexr hXb hFb hHb huv hcw) w_cd_Ch_changesAt w_ini_Ch w_ml_He_133 w_im_Ch_changesAt w_se_Ch_changesAt hc0 rfl hd_Ch_changesAt rfl (Nat.le_of_ble_eq_true rfl) d_He_sideOf_10 (by decide) (by decide) (fun v σ1 hp => ?_)
  obtain ⟨rfl, k1, k2, k3⟩ := hp
  refine q_isub d_He_sideOf_13 ?_
  refine q_ist_4 d_He_sideOf_14 (by decide) rfl ?_
  refine q_aload_n d_He_sideOf_16 rfl ?_
  refine q_gr hH0 pc_He 2 (by decide) w_fl_He_29 rfl (by rfl) d_He_sideOf_17 ?_
  refine q_gi hc0 pc_Ch 2 (by decide) w_fl_He_137 rfl (by rfl) d_He_sideOf_20 ?_
  refine q_topi k2 ?_
  refine q_jn1 (V := (if (hv (F 0) (d 0) X ex (d 0 + 1)).sign = 0 then (st - (vr (fun k => (hv (F k) (d k) X ex (d k + 1)).sign) n).1) - 1 else (st - (vr (fun k => (hv (F k) (d k) X ex (d k + 1)).sign) n).1))) 35 (fun jn => ?_) ?_
  · refine q_if_ne (tgt := 33) (by omega) d_He_sideOf_23 (by decide) (fun cz => ?_) (fun cz => ?_)
    · refine q_iload d_He_sideOf_33 rfl ?_
      exact jn _ ((if_neg cz).symm)
    · refine q_iload d_He_sideOf_26 rfl ?_
      refine q_iconst d_He_sideOf_28 rfl ?_
      refine q_isub d_He_sideOf_29 ?_
      refine q_goto (tgt := 35) d_He_sideOf_30 (by decide) ?_
      exact jn _ ((if_pos cz).symm)
  · refine q_ist_5 d_He_sideOf_35 (by decide) rfl ?_
    refine q_iload_n d_He_sideOf_37 rfl ?_
    refine q_iload d_He_sideOf_38 rfl ?_
    refine q_icmp_ge (tgt := 45) (by omega) (by split <;> omega) d_He_sideOf_40 (by decide) (fun c1 => ?_) (fun c1 => ?_)
    · refine q_iload_n d_He_sideOf_45 rfl ?_
      refine q_iload d_He_sideOf_46 rfl ?_
      refine q_jn2 (V := if i < (st - (vr (fun k => (hv (F k) (d k) X ex (d k + 1)).sign) n).1) then 0 else 1) 56 (fun jn => ?_) ?_
      · refine q_icmp_ge (tgt := 55) (by omega) (by omega) d_He_sideOf_48 (by decide) (fun c2 => ?_) (fun c2 => ?_)
        · refine q_iconst d_He_sideOf_55 rfl ?_
          exact jn _ ((if_neg (Int.not_lt.mpr c2)).symm)
        · refine q_iconst d_He_sideOf_51 rfl ?_
          refine q_goto (tgt := 56) d_He_sideOf_52 (by decide) ?_
          exact jn _ ((if_pos (Int.not_le.mp c2)).symm)
      · exact q_iret rfl (⟨by rw [if_neg (Int.not_lt.mpr c1)], k1, k2, k3⟩) d_He_sideOf_56
    · refine q_iconst d_He_sideOf_43 rfl ?_
      exact q_iret rfl (⟨by rw [if_pos (Int.not_le.mp c1)], k1, k2, k3⟩) d_He_sideOf_44
