/-! THE DESK: put, over the store -/
set_option maxHeartbeats 4000000 in
set_option maxRecDepth 100000 in
theorem q_D_put (l : Launch) (K : pw_K) {L : q_L} {σ : q_S} {x j k : Nat} {t : Int} {P : Nat → Int} (hD : dL L x) (hj : j < 2) (hk : k < 9) (ht : -2147483648 ≤ t ∧ t < 2147483648) (hi : hin σ (x + 2 + 177 * j) P) : q_C l K L y_D_put b_D_put 4 none 9 [.ref x, vi j, vi k, vi t] σ (fun r σ' => r = none ∧ hin σ' (x + 2 + 177 * j) (upP P k t) ∧ ∀ q, (q < x + 2 + 177 * j ∨ x + 2 + 177 * j + 177 ≤ q) → σ' q = σ q) := by
  obtain ⟨hD0, ⟨dg', hdg1, hdg2⟩, hHe, hbe, hqu, htx⟩ := hD
  have hH := hHe j hj
  obtain ⟨⟨s1, s2, s3, s4, s5⟩, hi2⟩ := hi
  have u3 : ∀ c, c < 9 → -2147483648 ≤ upP P k t c ∧ upP P k t c < 2147483648 := fun c hc => by
    unfold upP
    split
    · exact ht
    · exact s3 c hc
  have u4 : ∀ c, 9 ≤ c → upP P k t c = 0 := fun c hc => by
    unfold upP
    rw [if_neg (by omega)]
    exact s4 c hc
  refine q_start [some (.ref x), some (vi j), some (vi k), some (vi t)] (by decide) (Nat.le_of_ble_eq_true rfl) (fun q h => h) ?_
  refine q_aload_n d_D_put_0 rfl ?_
  refine q_iload_n d_D_put_1 rfl ?_
  refine q_callV (As := [vi j]) (q_D_checkPolynomial l K L σ x (by omega)) w_cd_D_checkPolynomial w_ini_D w_ml_D_37 w_im_D_checkPolynomial w_se_D_checkPolynomial hD0 rfl hd_D_checkPolynomial rfl (Nat.le_of_ble_eq_true rfl) d_D_put_2 (by decide) (by decide) (fun v σ9 hp => ?_)
  obtain ⟨rfl, hσ⟩ := hp
  rw [hσ]
  clear hσ σ9
  refine q_iload_n d_D_put_5 rfl ?_
  refine q_if_lt (tgt := 15) (by omega) d_D_put_6 (by decide) (fun c6 => absurd c6 (by omega)) (fun c6 => ?_)
  refine q_iload_n d_D_put_9 rfl ?_
  refine q_bipush d_D_put_10 (by decide) ?_
  refine q_icmp_lt (tgt := 25) (by omega) (by decide) d_D_put_12 (by decide) (fun c12 => ?_) (fun c12 => absurd c12 (by omega))
  refine q_aload_n d_D_put_25 rfl ?_
  refine q_gr hD0 pc_D 0 (by decide) w_fl_D_11 rfl (by rfl) d_D_put_26 ?_
  refine q_iload_n d_D_put_29 rfl ?_
  refine q_aal (j) 7 (b := x + 2 + 177 * j) rfl hdg1 (by omega) (by omega) (by omega) (hdg2 _ hj) d_D_put_30 ?_
  refine q_iload_n d_D_put_31 rfl ?_
  refine q_iload_n d_D_put_32 rfl ?_
  refine q_callV (As := [vi k, vi t]) (q_He_change l K hH hk ht s1 s2 s3 s5) w_cd_He_change w_ini_He w_ml_D_48 w_im_He_change w_se_He_change hH.1 rfl hd_He_change rfl (Nat.le_of_ble_eq_true rfl) d_D_put_33 (by decide) (by decide) (fun v σ1 hp => ?_)
  obtain ⟨rfl, k1, k2, k3, k4⟩ := hp
  exact q_vret rfl (⟨rfl, by
      rcases k4 with ⟨e1, e2⟩ | ⟨e1, e2, e3⟩
      · have e3 : σ1 = σ := funext e2
        rw [e1, e3]
        exact ⟨⟨s1, s2, s3, s4, s5⟩, hi2⟩
      · exact ⟨⟨k1, k2, u3, u4, k3⟩, Or.inl e1⟩, fun q hq => by
      rcases k4 with ⟨e1, e2⟩ | ⟨e1, e2, e3⟩
      · exact e2 q
      · exact e3 q (by omega)⟩) d_D_put_36
