/-! DIVIDER: takeDigit -/
section KD
variable {V W D q two fi se u2 v0 w0 E : Int}
theorem kd_V (hE : 0 < E) (hV : V = (fi * 2147483648 + se) * E + v0) (hs : 0 ≤ se) (hv : 0 ≤ v0) : fi * (2147483648 * E) ≤ V := by
  have h1 := Int.mul_nonneg hs (Int.le_of_lt hE)
  have h2 : (fi * 2147483648 + se) * E = fi * (2147483648 * E) + se * E := by grind
  omega
theorem kd_W (hE : 0 < E) (hW : W = (two * 2147483648 + u2) * E + w0) (hu : u2 < 2147483648) (hw : w0 < E) : W < (two + 1) * (2147483648 * E) := by
  have h1 := Int.mul_le_mul_of_nonneg_right (show u2 ≤ 2147483647 by omega) (Int.le_of_lt hE)
  have h2 : (two * 2147483648 + u2) * E = two * (2147483648 * E) + u2 * E := by grind
  have h3 : (two + 1) * (2147483648 * E) = two * (2147483648 * E) + 2147483648 * E := by grind
  omega
/-- the guess isn't too small -/
theorem kd_lo (hE : 0 < E) (hV : V = (fi * 2147483648 + se) * E + v0) (hW : W = (two * 2147483648 + u2) * E + w0) (hf : 0 ≤ fi) (hs : 0 ≤ se) (hv : 0 ≤ v0) (hu : u2 < 2147483648) (hw : w0 < E) (hq : q * V ≤ W) (hD0 : 0 ≤ D) (hD : two < (D + 1) * fi) : q ≤ D := by
  rcases Int.lt_or_le D q with h | h
  · exfalso
    have a0 := kd_V hE hV hs hv
    have a5 := kd_W hE hW hu hw
    have hBE : 0 < 2147483648 * E := by omega
    have hV0 : 0 ≤ V := Int.le_trans (Int.mul_nonneg hf (Int.le_of_lt hBE)) a0
    have a1 := Int.mul_le_mul_of_nonneg_right (show D + 1 ≤ q by omega) hV0
    have a3 := Int.mul_le_mul_of_nonneg_left a0 (show 0 ≤ D + 1 by omega)
    have a4 := Int.mul_le_mul_of_nonneg_right (show two + 1 ≤ (D + 1) * fi by omega) (Int.le_of_lt hBE)
    have a6 : (D + 1) * fi * (2147483648 * E) = (D + 1) * (fi * (2147483648 * E)) := Int.mul_assoc _ _ _
    omega
  · exact h
/-- the test says too large: it is -/
theorem kd_gt {left : Int} (hE : 0 < E) (hV : V = (fi * 2147483648 + se) * E + v0) (hW : W = (two * 2147483648 + u2) * E + w0) (hv : 0 ≤ v0) (hw : w0 < E) (hq : q * V ≤ W) (hV0 : 0 < V) (hD0 : 0 ≤ D) (hl : two = D * fi + left) (ht : left * 2147483648 + u2 < D * se) : q ≤ D - 1 := by
  rcases Int.lt_or_le q D with h | h
  · omega
  · exfalso
    have a1 := Int.mul_le_mul_of_nonneg_right h (Int.le_of_lt hV0)
    have a2 : D * (fi * 2147483648 + se) = (two * 2147483648 + u2) + (D * se - (left * 2147483648 + u2)) := by rw [hl]; grind
    have a3 := Int.mul_le_mul_of_nonneg_right (show two * 2147483648 + u2 + 1 ≤ D * (fi * 2147483648 + se) by omega) (Int.le_of_lt hE)
    have a4 : D * V = D * (fi * 2147483648 + se) * E + D * v0 := by rw [hV]; grind
    have a5 := Int.mul_nonneg hD0 hv
    rw [Int.add_mul, Int.one_mul] at a3
    omega
/-- the test doesn't: at most 1 too large -/
theorem kd_hi {left : Int} (hE : 0 < E) (hV : V = (fi * 2147483648 + se) * E + v0) (hW : W = (two * 2147483648 + u2) * E + w0) (hf : 1 ≤ fi) (hs : 0 ≤ se) (hv : 0 ≤ v0 ∧ v0 < E) (hw : 0 ≤ w0) (hq : W < (q + 1) * V) (hV0 : 0 < V) (hD0 : 0 ≤ D ∧ D ≤ 2147483648) (hl : two = D * fi + left) (ht : D * se ≤ left * 2147483648 + u2) : D ≤ q + 1 := by
  rcases Int.lt_or_le (q + 1) D with h | h
  · exfalso
    have a1 := Int.mul_le_mul_of_nonneg_right (show (q + 1) + 1 ≤ D by omega) (Int.le_of_lt hV0)
    rw [Int.add_mul (q + 1), Int.one_mul] at a1
    have a2 : D * (fi * 2147483648 + se) = (two * 2147483648 + u2) + (D * se - (left * 2147483648 + u2)) := by rw [hl]; grind
    have a3 := Int.mul_le_mul_of_nonneg_right (show D * (fi * 2147483648 + se) ≤ two * 2147483648 + u2 by omega) (Int.le_of_lt hE)
    have a4 : D * V = D * (fi * 2147483648 + se) * E + D * v0 := by rw [hV]; grind
    have a5 := Int.mul_le_mul_of_nonneg_left (Int.le_of_lt hv.2) hD0.1
    have a6 := Int.mul_le_mul_of_nonneg_right hD0.2 (Int.le_of_lt hE)
    have a7 := kd_V hE hV hs hv.1
    have a8 := Int.mul_le_mul_of_nonneg_right hf (show 0 ≤ 2147483648 * E by omega)
    omega
  · exact h
end KD
set_option maxHeartbeats 4000000 in
set_option maxRecDepth 100000 in
theorem c_Di_takeDigit (l : Launch) (K : pw_K) {L : q_L} {σ : q_S} {c j n : Nat} (hL : diL L c) (hlen : σ (c + 5) 1 = n) (hn2 : 2 ≤ n) (hjn : j + n < 160) (hm : ∀ k, k < n → 0 ≤ σ (c + 6) k ∧ σ (c + 6) k < 2147483648) (hd : ∀ t, t < n + 1 → 0 ≤ wn σ c j t ∧ wn σ c j t < 2147483648) (hnorm : 1073741824 ≤ σ (c + 6) (n - 1)) (hWV : dv 2147483648 (wn σ c j) (n + 1) < dv 2147483648 (σ (c + 6)) n * 2147483648) : q_C l K L y_Di_takeDigit b_Di_takeDigit 15 (some .int) 1 [.ref c, vi j] σ (fun v σ' => v = some (vi (dv 2147483648 (wn σ c j) (n + 1) / dv 2147483648 (σ (c + 6)) n)) ∧ dv 2147483648 (wn σ' c j) (n + 1) = dv 2147483648 (wn σ c j) (n + 1) % dv 2147483648 (σ (c + 6)) n ∧ (∀ t, t < n + 1 → 0 ≤ wn σ' c j t ∧ wn σ' c j t < 2147483648) ∧ (∀ t, (t < j ∨ j + n < t) → σ' (c + 4) t = σ (c + 4) t) ∧ ∀ q, q ≠ c + 4 → σ' q = σ q) := by
  have hL0 := hL
  obtain ⟨hc0, hn1, hn3, hn5, hn7⟩ := hL0
  obtain ⟨⟨hr0, hr1⟩, -⟩ := hn3
  obtain ⟨⟨hm0, hm1⟩, -⟩ := hn5
  obtain ⟨V, hVd⟩ : ∃ V, V = dv 2147483648 (σ (c + 6)) n := ⟨_, rfl⟩
  obtain ⟨W, hWd⟩ : ∃ W, W = dv 2147483648 (wn σ c j) (n + 1) := ⟨_, rfl⟩
  obtain ⟨fi, hfi⟩ : ∃ fi, fi = σ (c + 6) (n - 1) := ⟨_, rfl⟩
  obtain ⟨se, hse0⟩ : ∃ se, se = σ (c + 6) (n - 2) := ⟨_, rfl⟩
  obtain ⟨two, htwo⟩ : ∃ two, two = wn σ c j n * 2147483648 + wn σ c j (n - 1) := ⟨_, rfl⟩
  obtain ⟨q, hqd⟩ : ∃ q, W / V = q := ⟨_, rfl⟩
  have hfr := hm (n - 1) (by omega)
  have hse := hm (n - 2) (by omega)
  rw [← hfi] at hfr hnorm
  rw [← hse0] at hse
  have hu0 := hd n (by omega)
  have hu1 := hd (n - 1) (by omega)
  have hu2 := hd (n - 2) (by omega)
  have hE := ip_pos (B := 2147483648) (by decide) (n - 2)
  have hV : V = (fi * 2147483648 + se) * 2147483648 ^ (n - 2) + dv 2147483648 (σ (c + 6)) (n - 2) := by
    obtain ⟨k, rfl⟩ : ∃ k, n = k + 2 := ⟨n - 2, by omega⟩
    rw [hVd, hfi, hse0, show k + 2 - 1 = k + 1 by omega, show k + 2 - 2 = k by omega, dv_s, dv_s, Int.pow_succ]
    grind
  have hW : W = (two * 2147483648 + wn σ c j (n - 2)) * 2147483648 ^ (n - 2) + dv 2147483648 (wn σ c j) (n - 2) := by
    obtain ⟨k, rfl⟩ : ∃ k, n = k + 2 := ⟨n - 2, by omega⟩
    rw [hWd, htwo, show k + 2 - 1 = k + 1 by omega, show k + 2 - 2 = k by omega, dv_s, dv_s, dv_s, Int.pow_succ, Int.pow_succ]
    grind
  have hv0 := dv_range (B := 2147483648) (by decide) (fun k hk => hm k (by omega) : ∀ k, k < n - 2 → 0 ≤ σ (c + 6) k ∧ σ (c + 6) k < 2147483648)
  have hw0 := dv_range (B := 2147483648) (by decide) (fun k hk => hd k (by omega) : ∀ k, k < n - 2 → 0 ≤ wn σ c j k ∧ wn σ c j k < 2147483648)
  have hVr := dv_range (B := 2147483648) (by decide) hm
  have hWr := dv_range (B := 2147483648) (by decide) hd
  rw [← hVd] at hVr hWV
  rw [← hWd] at hWr hWV
  have hV0 : 0 < V := by
    have := kd_V hE hV hse.1 hv0.1
    have := Int.mul_pos (show 0 < fi by omega) (show 0 < 2147483648 * (2147483648 : Int) ^ (n - 2) by omega)
    omega
  have hdm := Int.mul_ediv_add_emod W V
  have hm0' := Int.emod_nonneg W (show V ≠ 0 by omega)
  have hm1' := Int.emod_lt_of_pos W hV0
  have hrd : W - q * V = W % V := by rw [← hqd]; rw [Int.mul_comm]; omega
  have hq1 : q * V ≤ W := by omega
  have hq2 : W < (q + 1) * V := by rw [Int.add_mul, Int.one_mul]; omega
  have hq0 : 0 ≤ q := by rw [← hqd]; exact Int.ediv_nonneg hWr.1 (Int.le_of_lt hV0)
  have hqB : q < 2147483648 := by rw [← hqd]; exact Int.ediv_lt_of_lt_mul hV0 (by rw [Int.mul_comm]; exact hWV)
  have htw : two < (fi + 1) * 2147483648 := by
    rcases Int.lt_or_le two ((fi + 1) * 2147483648) with h | h
    · exact h
    · exfalso
      have hBE : 0 < 2147483648 * (2147483648 : Int) ^ (n - 2) := by omega
      have g1 := Int.mul_le_mul_of_nonneg_right h (Int.le_of_lt hBE)
      have g2 : (two * 2147483648 + wn σ c j (n - 2)) * 2147483648 ^ (n - 2) = two * (2147483648 * 2147483648 ^ (n - 2)) + wn σ c j (n - 2) * 2147483648 ^ (n - 2) := by grind
      have g3 := Int.mul_nonneg hu2.1 (Int.le_of_lt hE)
      have g4 := Int.mul_le_mul_of_nonneg_right (show se ≤ 2147483647 by omega) (Int.le_of_lt hE)
      have g5 : (fi * 2147483648 + se) * 2147483648 ^ (n - 2) = fi * (2147483648 * 2147483648 ^ (n - 2)) + se * 2147483648 ^ (n - 2) := by grind
      have g6 : (fi + 1) * 2147483648 * (2147483648 * 2147483648 ^ (n - 2)) = 2147483648 * (fi * (2147483648 * 2147483648 ^ (n - 2))) + 2147483648 * (2147483648 * 2147483648 ^ (n - 2)) := by grind
      omega
  have hDlt : two < (two / fi + 1) * fi := by
    have g1 := Int.mul_ediv_add_emod two fi
    have g2 := Int.emod_lt_of_pos two (show 0 < fi by omega)
    rw [Int.add_mul, Int.one_mul, Int.mul_comm]
    omega
  have hfm := Int.mul_ediv_add_emod two fi
  have hfm1 := Int.emod_lt_of_pos two (show 0 < fi by omega)
  have hfm2 := Int.emod_nonneg two (show fi ≠ 0 by omega)
  have hD2 : 0 ≤ two / fi := Int.ediv_nonneg (by omega) (by omega)
  have hD3 : two / fi ≤ 2147483649 := by
    have : two / fi < 2147483650 := Int.ediv_lt_of_lt_mul (by omega) (by omega)
    omega
  rw [← hWd, ← hVd]
  refine q_start [some (.ref c), some (vi j), none, none, none, none, none, none, none, none, none, none, none, none, none] (by decide) (Nat.le_of_ble_eq_true rfl) (fun q h => h) ?_
  have hfin : ∀ (D lf : Int) (hi : Option Value) (t : Int) (hi' : hi = hi), q ≤ D → D ≤ q + 1 → q_T l K L R_Di b_Di_takeDigit 15 (some .int) 1 (fun v σ' => v = some (vi (W / V)) ∧ dv 2147483648 (wn σ' c j) (n + 1) = W % V ∧ (∀ t, t < n + 1 → 0 ≤ wn σ' c j t ∧ wn σ' c j t < 2147483648) ∧ (∀ t, (t < j ∨ j + n < t) → σ' (c + 4) t = σ (c + 4) t) ∧ ∀ q, q ≠ c + 4 → σ' q = σ q) 176 [some (.ref c), some (vi j), some (vi (n : Int)), some (vl fi), none, some (vl se), none, some (vl two), none, some (vl D), none, some (vl lf), none, some (vi t), hi] [] σ := by
    intro D lf hi t _ f1 f2
    have hlow : -(2147483648 ^ (n + 1)) ≤ dv 2147483648 (wn σ c j) (n + 1) - D * dv 2147483648 (σ (c + 6)) n := by
      rw [← hWd, ← hVd]
      have g1 := Int.mul_le_mul_of_nonneg_right f2 (Int.le_of_lt hV0)
      rw [Int.add_mul, Int.one_mul] at g1
      have g2 := ip_le (B := 2147483648) (by decide) (show n ≤ n + 1 by omega)
      omega
    refine q_aload_n d_Di_takeDigit_176 rfl ?_
    refine q_iload_n d_Di_takeDigit_177 rfl ?_
    refine q_lload d_Di_takeDigit_178 rfl ?_
    refine q_callV (As := [vi j, vl D]) (c_Di_subtractDigit l K hL hlen hjn hm hd (by omega) hlow) w_cd_Di_subtractDigit w_ini_Di w_ml_Di_77 w_im_Di_subtractDigit w_se_Di_subtractDigit hc0 rfl hd_Di_subtractDigit rfl (Nat.le_of_ble_eq_true rfl) d_Di_takeDigit_180 (by decide) (by decide) (fun v σ1 hp => ?_)
    obtain ⟨⟨bo, rfl, hbo, k1⟩, k2, k3, k4⟩ := hp
    rw [← hWd, ← hVd] at k1
    refine q_if_eq (tgt := 197) (by omega) d_Di_takeDigit_183 (by decide) (fun cb => ?_) (fun cb => ?_)
    · refine q_lload d_Di_takeDigit_197 rfl ?_
      refine q_l2i d_Di_takeDigit_199 ?_
      exact q_iret rfl (by
        rw [cb] at k1
        have g1 := (dv_range (B := 2147483648) (by decide) k2).1
        obtain rfl : D = q := by
          rcases (show D = q ∨ D = q + 1 by omega) with h | h
          · exact h
          · exfalso; rw [h, Int.add_mul, Int.one_mul] at k1; omega
        exact ⟨by rw [hqd], by rw [← hrd]; omega, k2, k3, k4⟩) d_Di_takeDigit_200
    · refine q_aload_n d_Di_takeDigit_186 rfl ?_
      refine q_iload_n d_Di_takeDigit_187 rfl ?_
      refine q_callV (As := [vi j]) (c_Di_addBack l K hL (by rw [k4 _ (by omega)]; exact hlen) hjn (fun k hk => by rw [k4 _ (by omega)]; exact hm k hk) k2) w_cd_Di_addBack w_ini_Di w_ml_Di_81 w_im_Di_addBack w_se_Di_addBack hc0 rfl hd_Di_addBack rfl (Nat.le_of_ble_eq_true rfl) d_Di_takeDigit_188 (by decide) (by decide) (fun v σ2 hp => ?_)
      obtain ⟨rfl, ⟨co, hco, k5⟩, k6, k7, k8⟩ := hp
      refine q_lload d_Di_takeDigit_191 rfl ?_
      refine q_lconst (z := 1) d_Di_takeDigit_193 (by decide) ?_
      refine q_lsub d_Di_takeDigit_194 ?_
      refine q_lst_9 d_Di_takeDigit_195 (by decide) rfl ?_
      refine q_lload d_Di_takeDigit_197 rfl ?_
      refine q_l2i d_Di_takeDigit_199 ?_
      exact q_iret rfl (by
        rw [show bo = 1 by omega] at k1
        have g1 := (dv_range (B := 2147483648) (by decide) k2).2
        have g2 := (dv_range (B := 2147483648) (by decide) k6)
        obtain rfl : D = q + 1 := by
          rcases (show D = q ∨ D = q + 1 by omega) with h | h
          · exfalso; rw [h] at k1; omega
          · exact h
        rw [k4 (c + 6) (by omega), ← hVd] at k5
        rw [Int.add_mul, Int.one_mul] at k1
        have hco1 : co = 1 := by
          rcases hco with h | h
          · exfalso; rw [h] at k5; omega
          · exact h
        rw [hco1] at k5
        exact ⟨by rw [hqd, show q + 1 - 1 = q by omega], by rw [← hrd]; omega, k6, fun t ht => (k7 t ht).trans (k3 t ht), fun q hq => by rw [k8 q hq, k4 q hq]⟩) d_Di_takeDigit_200
  have loop : ∀ (d i : Nat), i + d = 3 → ∀ (D lf : Int) (hi : Option Value), i ≤ 2 → (0 ≤ lf ∧ lf < 2147483648 + fi ∧ (i = 1 → fi ≤ lf) ∧ (i = 2 → 2 * fi ≤ lf)) → (0 ≤ D ∧ D ≤ 2147483650) → two = D * fi + lf → q ≤ D → ∀ t : Int, t = i → q_T l K L R_Di b_Di_takeDigit 15 (some .int) 1 (fun v σ' => v = some (vi (W / V)) ∧ dv 2147483648 (wn σ' c j) (n + 1) = W % V ∧ (∀ t, t < n + 1 → 0 ≤ wn σ' c j t ∧ wn σ' c j t < 2147483648) ∧ (∀ t, (t < j ∨ j + n < t) → σ' (c + 4) t = σ (c + 4) t) ∧ ∀ q, q ≠ c + 4 → σ' q = σ q) 90 [some (.ref c), some (vi j), some (vi (n : Int)), some (vl fi), none, some (vl se), none, some (vl two), none, some (vl D), none, some (vl lf), none, some (vi t), hi] [] σ := by
    intro d
    induction d with
    | zero => intro i hi D lf hi' h2; omega
    | succ d ih =>
      intro i hi D lf hi' f0 f1 f2 f3 f4 t ht
      refine q_iload d_Di_takeDigit_90 rfl ?_
      refine q_iconst d_Di_takeDigit_92 rfl ?_
      refine q_icmp_ge (tgt := 176) (by omega) (by omega) d_Di_takeDigit_93 (by decide) (fun c93 => absurd c93 (by omega)) (fun c93 => ?_)
      have r1 := hd (n - 2) (by omega)
      obtain ⟨hi, hhi⟩ : ∃ hi : Int, hi = if 2147483647 < D ∨ lf * 2147483648 + wn σ c j (n - 2) < D * se then 1 else 0 := ⟨_, rfl⟩
      have hi01 : hi = 0 ∨ hi = 1 := by rw [hhi]; split; exact Or.inr rfl; exact Or.inl rfl
      have hi0 : hid (hi = 0 → ¬ (2147483647 < D ∨ lf * 2147483648 + wn σ c j (n - 2) < D * se)) := fun h => by
        intro c
        rw [if_pos c] at hhi
        omega
      have hi1 : hid (¬ hi = 0 → (2147483647 < D ∨ lf * 2147483648 + wn σ c j (n - 2) < D * se)) := fun h => by
        by_cases cc : 2147483647 < D ∨ lf * 2147483648 + wn σ c j (n - 2) < D * se
        · exact cc
        · rw [if_neg cc] at hhi
          exact absurd hhi h
      have r2 : 0 ≤ D * se ∧ D * se ≤ 2147483650 * 2147483647 := ⟨Int.mul_nonneg f2.1 hse.1, Int.mul_le_mul f2.2 (by omega) hse.1 (by decide)⟩
      refine q_lload d_Di_takeDigit_96 rfl ?_
      refine q_ldc2 (z := 2147483647) w_kl_Di_75 (by decide) d_Di_takeDigit_98 ?_
      refine q_jn2 (V := hi) 139 (fun jn => ?_) ?_
      · refine q_lcmp_gt (tgt := 134) (by omega) (by omega) d_Di_takeDigit_101 d_Di_takeDigit_102 (by decide) (fun c1 => ?_) (fun c1 => ?_)
        · refine q_iconst d_Di_takeDigit_134 rfl ?_
          refine q_goto (tgt := 139) d_Di_takeDigit_135 (by decide) ?_
          exact jn _ (by rw [hhi]; exact (if_pos (Or.inl c1)).symm)
        · refine q_lload d_Di_takeDigit_105 rfl ?_
          refine q_lload d_Di_takeDigit_107 rfl ?_
          refine q_lmul d_Di_takeDigit_109 ?_
          refine q_lload d_Di_takeDigit_110 rfl ?_
          refine q_bipush d_Di_takeDigit_112 (by decide) ?_
          refine q_lshl (z := lf * 2147483648) (q_lshl31 _) d_Di_takeDigit_114 ?_
          refine q_aload_n d_Di_takeDigit_115 rfl ?_
          refine q_gr hc0 pc_Di 1 (by decide) w_fl_Di_18 rfl (by rfl) d_Di_takeDigit_116 ?_
          refine q_gr hr0 pc_Nu 0 (by decide) w_fl_Di_42 rfl (by rfl) d_Di_takeDigit_119 ?_
          refine q_iload_n d_Di_takeDigit_122 rfl ?_
          refine q_iload_n d_Di_takeDigit_123 rfl ?_
          refine q_iadd d_Di_takeDigit_124 ?_
          refine q_iconst d_Di_takeDigit_125 rfl ?_
          refine q_isub d_Di_takeDigit_126 ?_
          refine q_ial (j + (n - 2)) (by assumption) (by omega) (by omega) (by omega) d_Di_takeDigit_127 ?_
          refine q_topi (show _ = wn σ c j (n - 2) from rfl) ?_
          refine q_i2l (by omega) d_Di_takeDigit_128 ?_
          refine q_lor (z := lf * 2147483648 + wn σ c j (n - 2)) (q_lor31 f1.1 r1 (by omega)) d_Di_takeDigit_129 ?_
          refine q_lcmp_le (tgt := 138) (by omega) (by omega) d_Di_takeDigit_130 d_Di_takeDigit_131 (by decide) (fun c131 => ?_) (fun c131 => ?_)
          · refine q_iconst d_Di_takeDigit_138 rfl ?_
            exact jn _ (by rw [hhi]; first | exact (if_pos (Or.inr (by omega))).symm | exact (if_neg (by omega)).symm)
          · refine q_iconst d_Di_takeDigit_134 rfl ?_
            refine q_goto (tgt := 139) d_Di_takeDigit_135 (by decide) ?_
            exact jn _ (by rw [hhi]; first | exact (if_pos (Or.inr (by omega))).symm | exact (if_neg (by omega)).symm)
      · refine q_ist_14 d_Di_takeDigit_139 (by decide) rfl ?_
        refine q_iload d_Di_takeDigit_141 rfl ?_
        refine q_if_eq (tgt := 176) (by omega) d_Di_takeDigit_143 (by decide) (fun ch => ?_) (fun ch => ?_)
        · have hx := hi0 ch
          exact hfin D lf _ _ rfl (by omega) (kd_hi hE hV hW (by omega) hse.1 hv0 hw0.1 hq2 hV0 (by omega) f3 (by omega))
        · refine q_lload d_Di_takeDigit_146 rfl ?_
          refine q_ldc2 (z := 2147483647) w_kl_Di_75 (by decide) d_Di_takeDigit_148 ?_
          refine q_lcmp_le (tgt := 158) (by omega) (by omega) d_Di_takeDigit_151 d_Di_takeDigit_152 (by decide) (fun cl => ?_) (fun cl => ?_)
          · have hx := hi1 ch
            have hnq : q ≤ D - 1 := by
              rcases hx with g | g
              · omega
              · exact kd_gt hE hV hW hv0.1 hw0.2 hq1 hV0 f2.1 f3 g
            refine q_lload d_Di_takeDigit_158 rfl ?_
            refine q_lconst (z := 1) d_Di_takeDigit_160 (by decide) ?_
            refine q_lsub d_Di_takeDigit_161 ?_
            refine q_lst_9 d_Di_takeDigit_162 (by decide) rfl ?_
            refine q_lload d_Di_takeDigit_164 rfl ?_
            refine q_lload_n d_Di_takeDigit_166 rfl ?_
            refine q_ladd d_Di_takeDigit_167 ?_
            refine q_lst_11 d_Di_takeDigit_168 (by decide) rfl ?_
            refine q_iinc_13 d_Di_takeDigit_170 (by decide) rfl ?_
            refine q_goto (tgt := 90) d_Di_takeDigit_173 (by decide) ?_
            exact ih (i + 1) (by omega) (D - 1) (lf + fi) _ (by omega) (by omega) (by omega) (by rw [f3]; grind) hnq _ (by omega)
          · refine q_goto (tgt := 176) d_Di_takeDigit_155 (by decide) ?_
            exfalso
            have hx := hi1 ch
            rcases Int.lt_or_le D 2147483648 with g | g
            · have g1 : D * se ≤ 2147483647 * 2147483647 := Int.mul_le_mul (by omega) (by omega) hse.1 (by decide)
              omega
            · have g1 := Int.mul_le_mul_of_nonneg_right g (show 0 ≤ fi by omega)
              omega
  refine q_aload_n d_Di_takeDigit_0 rfl ?_
  refine q_gr hc0 pc_Di 2 (by decide) w_fl_Di_21 rfl (by rfl) d_Di_takeDigit_1 ?_
  refine q_gi hm0 pc_Nu 1 (by decide) w_fl_Di_30 rfl (by rfl) d_Di_takeDigit_4 ?_
  refine q_topi hlen ?_
  refine q_ist_n_2 d_Di_takeDigit_7 (by decide) rfl ?_
  refine q_aload_n d_Di_takeDigit_8 rfl ?_
  refine q_gr hc0 pc_Di 2 (by decide) w_fl_Di_21 rfl (by rfl) d_Di_takeDigit_9 ?_
  refine q_gr hm0 pc_Nu 0 (by decide) w_fl_Di_42 rfl (by rfl) d_Di_takeDigit_12 ?_
  refine q_iload_n d_Di_takeDigit_15 rfl ?_
  refine q_iconst d_Di_takeDigit_16 rfl ?_
  refine q_isub d_Di_takeDigit_17 ?_
  refine q_ial (n - 1) (by assumption) (by omega) (by omega) (by omega) d_Di_takeDigit_18 ?_
  refine q_topi (show _ = fi from hfi.symm) ?_
  refine q_i2l (by omega) d_Di_takeDigit_19 ?_
  refine q_lst_n_3 d_Di_takeDigit_20 (by decide) rfl ?_
  refine q_aload_n d_Di_takeDigit_21 rfl ?_
  refine q_gr hc0 pc_Di 2 (by decide) w_fl_Di_21 rfl (by rfl) d_Di_takeDigit_22 ?_
  refine q_gr hm0 pc_Nu 0 (by decide) w_fl_Di_42 rfl (by rfl) d_Di_takeDigit_25 ?_
  refine q_iload_n d_Di_takeDigit_28 rfl ?_
  refine q_iconst d_Di_takeDigit_29 rfl ?_
  refine q_isub d_Di_takeDigit_30 ?_
  refine q_ial (n - 2) (by assumption) (by omega) (by omega) (by omega) d_Di_takeDigit_31 ?_
  refine q_topi (show _ = se from hse0.symm) ?_
  refine q_i2l (by omega) d_Di_takeDigit_32 ?_
  refine q_lst_5 d_Di_takeDigit_33 (by decide) rfl ?_
  refine q_lload_n d_Di_takeDigit_35 rfl ?_
  refine q_lconst (z := 0) d_Di_takeDigit_36 (by decide) ?_
  refine q_lcmp_ne (tgt := 43) (by omega) (by omega) d_Di_takeDigit_37 d_Di_takeDigit_38 (by decide) (fun c38 => ?_) (fun c38 => absurd c38 (by omega))
  refine q_aload_n d_Di_takeDigit_43 rfl ?_
  refine q_gr hc0 pc_Di 1 (by decide) w_fl_Di_18 rfl (by rfl) d_Di_takeDigit_44 ?_
  refine q_gr hr0 pc_Nu 0 (by decide) w_fl_Di_42 rfl (by rfl) d_Di_takeDigit_47 ?_
  refine q_iload_n d_Di_takeDigit_50 rfl ?_
  refine q_iload_n d_Di_takeDigit_51 rfl ?_
  refine q_iadd d_Di_takeDigit_52 ?_
  refine q_ial (j + n) (by assumption) (by omega) (by omega) (by omega) d_Di_takeDigit_53 ?_
  refine q_topi (show _ = wn σ c j n from rfl) ?_
  refine q_i2l (by omega) d_Di_takeDigit_54 ?_
  refine q_bipush d_Di_takeDigit_55 (by decide) ?_
  refine q_lshl (z := wn σ c j n * 2147483648) (q_lshl31 _) d_Di_takeDigit_57 ?_
  refine q_aload_n d_Di_takeDigit_58 rfl ?_
  refine q_gr hc0 pc_Di 1 (by decide) w_fl_Di_18 rfl (by rfl) d_Di_takeDigit_59 ?_
  refine q_gr hr0 pc_Nu 0 (by decide) w_fl_Di_42 rfl (by rfl) d_Di_takeDigit_62 ?_
  refine q_iload_n d_Di_takeDigit_65 rfl ?_
  refine q_iload_n d_Di_takeDigit_66 rfl ?_
  refine q_iadd d_Di_takeDigit_67 ?_
  refine q_iconst d_Di_takeDigit_68 rfl ?_
  refine q_isub d_Di_takeDigit_69 ?_
  refine q_ial (j + (n - 1)) (by assumption) (by omega) (by omega) (by omega) d_Di_takeDigit_70 ?_
  refine q_topi (show _ = wn σ c j (n - 1) from rfl) ?_
  refine q_i2l (by omega) d_Di_takeDigit_71 ?_
  refine q_lor (z := two) (by rw [htwo]; exact q_lor31 hu0.1 hu1 (by omega)) d_Di_takeDigit_72 ?_
  refine q_lst_7 d_Di_takeDigit_73 (by decide) rfl ?_
  refine q_lload d_Di_takeDigit_75 rfl ?_
  refine q_lload_n d_Di_takeDigit_77 rfl ?_
  refine q_ldiv (by omega) (by omega) (by omega) d_Di_takeDigit_78 ?_
  refine q_topl (show _ = two / fi from Int.tdiv_eq_ediv_of_nonneg (by omega)) ?_
  refine q_lst_9 d_Di_takeDigit_79 (by decide) rfl ?_
  refine q_lload d_Di_takeDigit_81 rfl ?_
  refine q_lload_n d_Di_takeDigit_83 rfl ?_
  refine q_lrem (by omega) (by omega) (by omega) d_Di_takeDigit_84 ?_
  refine q_topl (show _ = two % fi from Int.tmod_eq_emod_of_nonneg (by omega)) ?_
  refine q_lst_11 d_Di_takeDigit_85 (by decide) rfl ?_
  refine q_iconst d_Di_takeDigit_87 rfl ?_
  refine q_ist_13 d_Di_takeDigit_88 (by decide) rfl ?_
  exact loop 3 0 (by omega) (two / fi) (two % fi) none (by omega) (by omega) (by omega) (by rw [Int.mul_comm]; omega) (kd_lo hE hV hW (by omega) hse.1 hv0.1 (by omega) hw0.2 hq1 (by omega) hDlt) _ rfl
