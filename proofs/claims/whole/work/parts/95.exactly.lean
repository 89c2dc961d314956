/-! THE REFERENCE: exactly -/
/-- what is left after t steps -/
def exw (Q : Nat → Int) (b : Nat) (P : Nat → Int) (n : Nat) : Nat → Nat → Int
  | 0, k => P k
  | t + 1, k => exw Q b P n t k * Q (b - 1) - shP Q (n - b - t) k * exw Q b P n t (n - 1 - t)
/-- the quotient so far -/
def exs (Q : Nat → Int) (b : Nat) (P : Nat → Int) (n : Nat) : Nat → Nat → Int
  | 0, _ => 0
  | t + 1, k => if k = n - b - t then exw Q b P n t (n - 1 - t) else exs Q b P n t k * Q (b - 1)
set_option maxHeartbeats 4000000 in
set_option maxRecDepth 100000 in
theorem c_Mo_exactly (l : Launch) (K : pw_K) {L : q_L} {σ : q_S} {m o p i n b u v : Nat} {P Q : Nat → Int} (hL : mL L m) (ho : o < 10) (hp : p < 10) (hi : i < 10) (ho5 : o ≠ 5) (ho6 : o ≠ 6) (hp5 : p ≠ 5) (hp6 : p ≠ 6) (hi5 : i ≠ 5) (hi6 : i ≠ 6) (hn : n ≤ 9) (hb1 : 1 ≤ b) (hbn : b ≤ n) (hdp : σ (m + 4) p = (n : Int) - 1) (hdq : σ (m + 4) i = (b : Int) - 1) (hP : ∀ k, k < n → rV σ m (9 * p + k) (P k)) (hQ : ∀ k, k < b → rV σ m (9 * i + k) (Q k)) (hW : ∀ t, t ≤ n - b → ∀ k, k < n → ((exw Q b P n t k).natAbs : Int) < 65536 ^ u) (hSt : ∀ t, t ≤ n - b → ∀ k, k ≤ n - b → ((exs Q b P n t k).natAbs : Int) < 65536 ^ u) (hSb : ∀ k, k ≤ n - b → ((exs Q b P n (n - b + 1) k).natAbs : Int) < 65536 ^ 1023) (hS0 : exs Q b P n (n - b + 1) (n - b) ≠ 0) (hQb : ∀ k, k < b → ((Q k).natAbs : Int) < 65536 ^ v) (huv : u + v + 1 ≤ 1024) : q_C l K L y_Mo_exactly b_Mo_exactly 8 none 4 [.ref m, vi o, vi p, vi i] σ (fun v σ' => v = none ∧ σ' (m + 4) o = ((n - b + 1 : Nat) : Int) - 1 ∧ (∀ k, k < n - b + 1 → rV σ' m (9 * o + k) ((exs Q b P n (n - b + 1) k).tdiv (gn (exs Q b P n (n - b + 1)) (n - b + 1) : Int) * (exs Q b P n (n - b + 1) (n - b)).sign)) ∧ (∀ r, (r < 97 ∨ 103 ≤ r) → (r < 45 ∨ 63 ≤ r) → (r < 9 * o ∨ 9 * o + (n - b + 1) ≤ r) → rE σ σ' m r) ∧ (∀ j, j ≠ o → j ≠ 5 → j ≠ 6 → σ' (m + 4) j = σ (m + 4) j) ∧ (∀ q, q ≠ m + 1 → q ≠ m + 2 → q ≠ m + 3 → q ≠ m + 4 → q ≠ m + 9 → σ' q = σ q)) := by
  obtain ⟨hM0, hM1, hM2, hM3, hM4, hM5, hM6, hM7, hM8, hM9⟩ := hL
  refine q_start [some (.ref m), some (vi o), some (vi p), some (vi i), none, none, none, none] (by decide) (Nat.le_of_ble_eq_true rfl) (fun q h => h) ?_
  have outer : ∀ (r t : Nat), t + r = n - b + 1 → ∀ (σ1 : q_S), (∀ y, y < n - t → rV σ1 m (45 + y) (exw Q b P n t y)) → (∀ y, n - b + 1 - t ≤ y → y ≤ n - b → rV σ1 m (54 + y) (exs Q b P n t y)) → (∀ r, r ≠ 101 → r ≠ 102 → (r < 45 ∨ 63 ≤ r) → rE σ σ1 m r) → (∀ j, j ≠ 5 → σ1 (m + 4) j = σ (m + 4) j) → (∀ q, q ≠ m + 1 → q ≠ m + 2 → q ≠ m + 3 → q ≠ m + 4 → q ≠ m + 9 → σ1 q = σ q) → ∀ s : Int, s = (n : Int) - b - t → q_T l K L R_Mo b_Mo_exactly 8 none 4 (fun v σ' => v = none ∧ σ' (m + 4) o = ((n - b + 1 : Nat) : Int) - 1 ∧ (∀ k, k < n - b + 1 → rV σ' m (9 * o + k) ((exs Q b P n (n - b + 1) k).tdiv (gn (exs Q b P n (n - b + 1)) (n - b + 1) : Int) * (exs Q b P n (n - b + 1) (n - b)).sign)) ∧ (∀ r, (r < 97 ∨ 103 ≤ r) → (r < 45 ∨ 63 ≤ r) → (r < 9 * o ∨ 9 * o + (n - b + 1) ≤ r) → rE σ σ' m r) ∧ (∀ j, j ≠ o → j ≠ 5 → j ≠ 6 → σ' (m + 4) j = σ (m + 4) j) ∧ (∀ q, q ≠ m + 1 → q ≠ m + 2 → q ≠ m + 3 → q ≠ m + 4 → q ≠ m + 9 → σ' q = σ q)) 25 [some (.ref m), some (vi o), some (vi p), some (vi i), some (vi ((n - b : Nat) : Int)), some (vi s), none, none] [] σ1 := by
    intro r
    induction r with
    | zero =>
      intro t ht σ1 f2 f3 f4 f5 f6 s hs
      refine q_iload d_Mo_exactly_25 rfl ?_
      refine q_if_lt (tgt := 212) (by omega) d_Mo_exactly_27 (by decide) (fun c27 => ?_) (fun c27 => absurd c27 (by omega))
      refine q_aload_n d_Mo_exactly_212 rfl ?_
      refine q_gr (by assumption) pc_Mo 4 (by decide) w_fl_Mo_20 rfl (by rfl) d_Mo_exactly_213 ?_
      refine q_bipush d_Mo_exactly_216 (by decide) ?_
      refine q_iload d_Mo_exactly_218 rfl ?_
      refine q_ias (6) (by assumption) (by omega) (by omega) (by omega) d_Mo_exactly_220 ?_
      refine q_aload_n d_Mo_exactly_221 rfl ?_
      refine q_iload_n d_Mo_exactly_222 rfl ?_
      refine q_bipush d_Mo_exactly_223 (by decide) ?_
      have ht1 : t = n - b + 1 := by omega
      have hr6 : ∀ r, rE σ1 (q_up σ1 (m + 4) 6 ((n - b : Nat) : Int)) m r := fun r => ⟨fun v hv => mr_o _ _ (by omega), by rw [q_up_a _ _ (by omega)], by rw [q_up_a _ _ (by omega)]⟩
      refine q_callV (As := [vi o, vi 6]) (c_Mo_copyPoly l K (p := o) (i := 6) (n := n - b + 1) (P := exs Q b P n (n - b + 1)) ⟨hM0, hM1, hM2, hM3, hM4, hM5, hM6, hM7, hM8, hM9⟩ ho (by decide) (by omega) (by omega) (by rw [q_up_self]; omega) (fun k hk => by have := (f3 k (by omega) (by omega)).mv (hr6 _); rw [ht1] at this; exact this)) w_cd_Mo_copyPoly w_ini_Mo w_ml_Mo_89 w_im_Mo_copyPoly w_se_Mo_copyPoly (by assumption) rfl hd_Mo_copyPoly rfl (Nat.le_of_ble_eq_true rfl) d_Mo_exactly_225 (by decide) (by decide) (fun v σ2 hp => ?_)
      obtain ⟨rfl, k1, k2, k3, k4, k5⟩ := hp
      refine q_aload_n d_Mo_exactly_228 rfl ?_
      refine q_iload_n d_Mo_exactly_229 rfl ?_
      refine q_callV (As := [vi o]) (c_Mo_primitive l K (p := o) (n := n - b + 1) (P := exs Q b P n (n - b + 1)) ⟨hM0, hM1, hM2, hM3, hM4, hM5, hM6, hM7, hM8, hM9⟩ ho (by omega) (by omega) k1 k2 (by rw [Nat.add_sub_cancel]; exact hS0) (fun k hk => hSb k (by omega))) w_cd_Mo_primitive w_ini_Mo w_ml_Mo_92 w_im_Mo_primitive w_se_Mo_primitive (by assumption) rfl hd_Mo_primitive rfl (Nat.le_of_ble_eq_true rfl) d_Mo_exactly_230 (by decide) (by decide) (fun v σ3 hp => ?_)
      obtain ⟨rfl, k6, k7, k8⟩ := hp
      rw [Nat.add_sub_cancel] at k6
      exact q_vret rfl (⟨rfl, by rw [k7 _ (by omega) (by omega) (by omega) (by omega)]; exact k1, k6, fun r h1 h2 h3 => (((f4 r (by omega) (by omega) h2).trans (hr6 r)).trans (k3 r (by omega))).trans (k8 r (by omega) h3), fun j h1 h2 h3 => by rw [k7 _ (by omega) (by omega) (by omega) (by omega), k4 j h1, q_up_k _ _ h3]; exact f5 j h2, fun q h1 h2 h3 h4 h5 => by rw [k7 q h1 h2 h3 h5, k5 q h1 h2 h3 h4, q_up_a _ _ h4]; exact f6 q h1 h2 h3 h4 h5⟩) d_Mo_exactly_233
    | succ r ih =>
      intro t ht σ1 f2 f3 f4 f5 f6 s hs
      refine q_iload d_Mo_exactly_25 rfl ?_
      refine q_if_lt (tgt := 212) (by omega) d_Mo_exactly_27 (by decide) (fun c27 => absurd c27 (by omega)) (fun c27 => ?_)
      have hlq := hQb (b - 1) (by omega)
      have hlw := hW t (by omega) (n - 1 - t) (by omega)
      have loop3 : ∀ (r w : Nat), w + r = b - 1 → ∀ (σ3 : q_S), (∀ y, n - b - t ≤ y → y < w + (n - b - t) → rV σ3 m (45 + y) (exw Q b P n t y * Q (b - 1) + -1 * (Q (y - (n - b - t)) * exw Q b P n t (n - 1 - t)))) → (∀ y, (y < n - b - t ∨ (w + (n - b - t) ≤ y ∧ y < n - 1 - t)) → rV σ3 m (45 + y) (exw Q b P n t y * Q (b - 1))) → (∀ y, n - b - t ≤ y → y ≤ n - b → rV σ3 m (54 + y) (exs Q b P n (t + 1) y)) → rV σ3 m 101 (exw Q b P n t (n - 1 - t)) → (∀ r, r ≠ 101 → r ≠ 102 → (r < 45 ∨ 63 ≤ r) → rE σ σ3 m r) → (∀ j, j ≠ 5 → σ3 (m + 4) j = σ (m + 4) j) → (∀ q, q ≠ m + 1 → q ≠ m + 2 → q ≠ m + 3 → q ≠ m + 4 → q ≠ m + 9 → σ3 q = σ q) → ∀ x : Int, x = w → q_T l K L R_Mo b_Mo_exactly 8 none 4 (fun v σ' => v = none ∧ σ' (m + 4) o = ((n - b + 1 : Nat) : Int) - 1 ∧ (∀ k, k < n - b + 1 → rV σ' m (9 * o + k) ((exs Q b P n (n - b + 1) k).tdiv (gn (exs Q b P n (n - b + 1)) (n - b + 1) : Int) * (exs Q b P n (n - b + 1) (n - b)).sign)) ∧ (∀ r, (r < 97 ∨ 103 ≤ r) → (r < 45 ∨ 63 ≤ r) → (r < 9 * o ∨ 9 * o + (n - b + 1) ≤ r) → rE σ σ' m r) ∧ (∀ j, j ≠ o → j ≠ 5 → j ≠ 6 → σ' (m + 4) j = σ (m + 4) j) ∧ (∀ q, q ≠ m + 1 → q ≠ m + 2 → q ≠ m + 3 → q ≠ m + 4 → q ≠ m + 9 → σ' q = σ q)) 151 [some (.ref m), some (vi o), some (vi p), some (vi i), some (vi ((n - b : Nat) : Int)), some (vi s), some (vi ((n - 1 - t : Nat) : Int)), some (vi x)] [] σ3 := by
        intro r
        induction r with
        | zero =>
          intro w hw σ3 g2 g3 g4 g5 g6 g7 g8 x hx
          refine q_iload d_Mo_exactly_151 rfl ?_
          refine q_aload_n d_Mo_exactly_153 rfl ?_
          refine q_gr (by assumption) pc_Mo 4 (by decide) w_fl_Mo_20 rfl (by rfl) d_Mo_exactly_154 ?_
          refine q_iload_n d_Mo_exactly_157 rfl ?_
          refine q_ial (i) (by assumption) (by omega) (by omega) (by omega) d_Mo_exactly_158 ?_
          refine q_topi (show _ = (b : Int) - 1 from (g7 i (by omega)).trans hdq) ?_
          refine q_icmp_ge (tgt := 206) (by omega) (by omega) d_Mo_exactly_159 (by decide) (fun c159 => ?_) (fun c159 => absurd c159 (by omega))
          refine q_iinc_5 d_Mo_exactly_206 (by decide) rfl ?_
          refine q_goto (tgt := 25) d_Mo_exactly_209 (by decide) ?_
          refine q_drop_7 ?_
          refine q_drop_6 ?_
          refine ih (t + 1) (by omega) σ3 (fun y hy => ?_) (fun y h1 h2 => g4 y (by omega) h2) g6 g7 g8 _ (by omega)
          show rV σ3 m (45 + y) (exw Q b P n t y * Q (b - 1) - shP Q (n - b - t) y * exw Q b P n t (n - 1 - t))
          unfold shP
          by_cases hd : y < n - b - t
          · rw [if_pos hd, Int.zero_mul, Int.sub_zero]; exact g3 y (Or.inl hd)
          · rw [if_neg hd]; have := g2 y (by omega) (by omega); rw [Int.neg_mul, Int.one_mul, ← Int.sub_eq_add_neg] at this; exact this
        | succ r ihw =>
          intro w hw σ3 g2 g3 g4 g5 g6 g7 g8 x hx
          refine q_iload d_Mo_exactly_151 rfl ?_
          refine q_aload_n d_Mo_exactly_153 rfl ?_
          refine q_gr (by assumption) pc_Mo 4 (by decide) w_fl_Mo_20 rfl (by rfl) d_Mo_exactly_154 ?_
          refine q_iload_n d_Mo_exactly_157 rfl ?_
          refine q_ial (i) (by assumption) (by omega) (by omega) (by omega) d_Mo_exactly_158 ?_
          refine q_topi (show _ = (b : Int) - 1 from (g7 i (by omega)).trans hdq) ?_
          refine q_icmp_ge (tgt := 206) (by omega) (by omega) d_Mo_exactly_159 (by decide) (fun c159 => absurd c159 (by omega)) (fun c159 => ?_)
          refine q_aload_n d_Mo_exactly_162 rfl ?_
          refine q_bipush d_Mo_exactly_163 (by decide) ?_
          refine q_bipush d_Mo_exactly_165 (by decide) ?_
          refine q_iload_n d_Mo_exactly_167 rfl ?_
          refine q_imul d_Mo_exactly_168 ?_
          refine q_iload d_Mo_exactly_169 rfl ?_
          refine q_iadd d_Mo_exactly_171 ?_
          refine q_topi (show _ = ((9 * i + w : Nat) : Int) by omega) ?_
          refine q_bipush d_Mo_exactly_172 (by decide) ?_
          refine q_callV (As := [vi 102, vi ((9 * i + w : Nat) : Int), vi 101]) (c_Mo_product l K (r := 102) (i := 9 * i + w) (j := 101) (u := v) (v := u) ⟨hM0, hM1, hM2, hM3, hM4, hM5, hM6, hM7, hM8, hM9⟩ (by decide) (by omega) (by decide) ((hQ w (by omega)).mv (g6 _ (by omega) (by omega) (by omega))) g5 (hQb w (by omega)) hlw (by omega)) w_cd_Mo_product w_ini_Mo w_ml_Mo_76 w_im_Mo_product w_se_Mo_product (by assumption) rfl hd_Mo_product rfl (Nat.le_of_ble_eq_true rfl) d_Mo_exactly_174 (by decide) (by decide) (fun v σ4 hp => ?_)
          obtain ⟨rfl, k1, k2, k3⟩ := hp
          refine q_aload_n d_Mo_exactly_177 rfl ?_
          refine q_bipush d_Mo_exactly_178 (by decide) ?_
          refine q_iload d_Mo_exactly_180 rfl ?_
          refine q_iadd d_Mo_exactly_182 ?_
          refine q_iload d_Mo_exactly_183 rfl ?_
          refine q_iadd d_Mo_exactly_185 ?_
          refine q_topi (show _ = ((45 + (w + (n - b - t)) : Nat) : Int) by omega) ?_
          refine q_bipush d_Mo_exactly_186 (by decide) ?_
          refine q_iload d_Mo_exactly_188 rfl ?_
          refine q_iadd d_Mo_exactly_190 ?_
          refine q_iload d_Mo_exactly_191 rfl ?_
          refine q_iadd d_Mo_exactly_193 ?_
          refine q_topi (show _ = ((45 + (w + (n - b - t)) : Nat) : Int) by omega) ?_
          refine q_bipush d_Mo_exactly_194 (by decide) ?_
          refine q_iconst d_Mo_exactly_196 rfl ?_
          refine q_callV (As := [vi ((45 + (w + (n - b - t)) : Nat) : Int), vi ((45 + (w + (n - b - t)) : Nat) : Int), vi 102, vi (-1)]) (c_Mo_sum l K (r := 45 + (w + (n - b - t))) (i := 45 + (w + (n - b - t))) (j := 102) (u := u + v) ⟨hM0, hM1, hM2, hM3, hM4, hM5, hM6, hM7, hM8, hM9⟩ (by omega) (by omega) (by decide) ((g3 (w + (n - b - t)) (Or.inr ⟨by omega, by omega⟩)).mv (k3 _ (by omega))) k1 (Or.inr rfl) (mul_lt_pow (hW t (by omega) _ (by omega)) hlq) (by rw [Nat.add_comm]; exact mul_lt_pow (hQb w (by omega)) hlw) (by omega)) w_cd_Mo_sum w_ini_Mo w_ml_Mo_83 w_im_Mo_sum w_se_Mo_sum (by assumption) rfl hd_Mo_sum rfl (Nat.le_of_ble_eq_true rfl) d_Mo_exactly_197 (by decide) (by decide) (fun v σ5 hp => ?_)
          obtain ⟨rfl, k4, k5, k6⟩ := hp
          refine q_iinc_7 d_Mo_exactly_200 (by decide) rfl ?_
          refine q_goto (tgt := 151) d_Mo_exactly_203 (by decide) ?_
          refine ihw (w + 1) (by omega) σ5 (fun y h1 h2 => ?_) (fun y hy => ((g3 y (by omega)).mv (k3 _ (by omega))).mv (k6 _ (by omega))) (fun y h1 h2 => ((g4 y h1 h2).mv (k3 _ (by omega))).mv (k6 _ (by omega))) ((g5.mv (k3 _ (by omega))).mv (k6 _ (by omega))) (fun r h1 h2 h3 => ((g6 r h1 h2 h3).trans (k3 r h2)).trans (k6 r (by omega))) (fun j hj => by rw [k5 _ (by omega) (by omega) (by omega) (by omega), k2 _ (by omega) (by omega) (by omega) (by omega)]; exact g7 j hj) (fun q h1 h2 h3 h4 h5 => by rw [k5 q h1 h2 h3 h5, k2 q h1 h2 h3 h5]; exact g8 q h1 h2 h3 h4 h5) _ (by omega)
          exact if ey : y = w + (n - b - t) then by subst ey; rw [Nat.add_sub_cancel]; exact k4 else ((g2 y h1 (by omega)).mv (k3 _ (by omega))).mv (k6 _ (by omega))
      have loop2 : ∀ (r w : Nat), w + r = n - b + 1 → n - b - t + 1 ≤ w → ∀ (σ3 : q_S), (∀ y, y < n - 1 - t → rV σ3 m (45 + y) (exw Q b P n t y * Q (b - 1))) → (∀ y, n - b - t + 1 ≤ y → y < w → rV σ3 m (54 + y) (exs Q b P n t y * Q (b - 1))) → (∀ y, w ≤ y → y ≤ n - b → rV σ3 m (54 + y) (exs Q b P n t y)) → rV σ3 m 101 (exw Q b P n t (n - 1 - t)) → (∀ r, r ≠ 101 → r ≠ 102 → (r < 45 ∨ 63 ≤ r) → rE σ σ3 m r) → (∀ j, j ≠ 5 → σ3 (m + 4) j = σ (m + 4) j) → (∀ q, q ≠ m + 1 → q ≠ m + 2 → q ≠ m + 3 → q ≠ m + 4 → q ≠ m + 9 → σ3 q = σ q) → ∀ x : Int, x = w → q_T l K L R_Mo b_Mo_exactly 8 none 4 (fun v σ' => v = none ∧ σ' (m + 4) o = ((n - b + 1 : Nat) : Int) - 1 ∧ (∀ k, k < n - b + 1 → rV σ' m (9 * o + k) ((exs Q b P n (n - b + 1) k).tdiv (gn (exs Q b P n (n - b + 1)) (n - b + 1) : Int) * (exs Q b P n (n - b + 1) (n - b)).sign)) ∧ (∀ r, (r < 97 ∨ 103 ≤ r) → (r < 45 ∨ 63 ≤ r) → (r < 9 * o ∨ 9 * o + (n - b + 1) ≤ r) → rE σ σ' m r) ∧ (∀ j, j ≠ o → j ≠ 5 → j ≠ 6 → σ' (m + 4) j = σ (m + 4) j) ∧ (∀ q, q ≠ m + 1 → q ≠ m + 2 → q ≠ m + 3 → q ≠ m + 4 → q ≠ m + 9 → σ' q = σ q)) 99 [some (.ref m), some (vi o), some (vi p), some (vi i), some (vi ((n - b : Nat) : Int)), some (vi s), some (vi ((n - 1 - t : Nat) : Int)), some (vi x)] [] σ3 := by
        intro r
        induction r with
        | zero =>
          intro w hw hw2 σ3 g2 g3 g4 g5 g6 g7 g8 x hx
          refine q_iload d_Mo_exactly_99 rfl ?_
          refine q_iload d_Mo_exactly_101 rfl ?_
          refine q_icmp_gt (tgt := 137) (by omega) (by omega) d_Mo_exactly_103 (by decide) (fun c103 => ?_) (fun c103 => absurd c103 (by omega))
          refine q_aload_n d_Mo_exactly_137 rfl ?_
          refine q_bipush d_Mo_exactly_138 (by decide) ?_
          refine q_iload d_Mo_exactly_140 rfl ?_
          refine q_iadd d_Mo_exactly_142 ?_
          refine q_topi (show _ = ((54 + (n - b - t) : Nat) : Int) by omega) ?_
          refine q_bipush d_Mo_exactly_143 (by decide) ?_
          refine q_callV (As := [vi ((54 + (n - b - t) : Nat) : Int), vi 101]) (c_Mo_copy l K (r := 54 + (n - b - t)) (i := 101) ⟨hM0, hM1, hM2, hM3, hM4, hM5, hM6, hM7, hM8, hM9⟩ (by omega) (by decide) g5) w_cd_Mo_copy w_ini_Mo w_ml_Mo_69 w_im_Mo_copy w_se_Mo_copy (by assumption) rfl hd_Mo_copy rfl (Nat.le_of_ble_eq_true rfl) d_Mo_exactly_145 (by decide) (by decide) (fun v σ4 hp => ?_)
          obtain ⟨rfl, k1, k2, k9, k3⟩ := hp
          refine q_iconst d_Mo_exactly_148 rfl ?_
          refine q_ist_7 d_Mo_exactly_149 (by decide) rfl ?_
          refine loop3 (b - 1) 0 (by omega) σ4 (fun y h1 h2 => by omega) (fun y hy => (g2 y (by omega)).mv (k3 _ (by omega))) (fun y h1 h2 => ?_) (g5.mv (k3 _ (by omega))) (fun r h1 h2 h3 => (g6 r h1 h2 h3).trans (k3 r (by omega))) (fun j hj => by rw [k2 _ (by omega) (by omega) (by omega) (by omega)]; exact g7 j hj) (fun q h1 h2 h3 h4 h5 => by rw [k2 q h1 h2 h3 h5]; exact g8 q h1 h2 h3 h4 h5) _ rfl
          exact if ey : y = n - b - t then by subst ey; rw [exs, if_pos rfl]; exact k1 else by rw [exs, if_neg ey]; exact (g3 y (by omega) (by omega)).mv (k3 _ (by omega))
        | succ r ihw =>
          intro w hw hw2 σ3 g2 g3 g4 g5 g6 g7 g8 x hx
          refine q_iload d_Mo_exactly_99 rfl ?_
          refine q_iload d_Mo_exactly_101 rfl ?_
          refine q_icmp_gt (tgt := 137) (by omega) (by omega) d_Mo_exactly_103 (by decide) (fun c103 => absurd c103 (by omega)) (fun c103 => ?_)
          refine q_aload_n d_Mo_exactly_106 rfl ?_
          refine q_bipush d_Mo_exactly_107 (by decide) ?_
          refine q_iload d_Mo_exactly_109 rfl ?_
          refine q_iadd d_Mo_exactly_111 ?_
          refine q_topi (show _ = ((54 + w : Nat) : Int) by omega) ?_
          refine q_bipush d_Mo_exactly_112 (by decide) ?_
          refine q_iload d_Mo_exactly_114 rfl ?_
          refine q_iadd d_Mo_exactly_116 ?_
          refine q_topi (show _ = ((54 + w : Nat) : Int) by omega) ?_
          refine q_bipush d_Mo_exactly_117 (by decide) ?_
          refine q_iload_n d_Mo_exactly_119 rfl ?_
          refine q_imul d_Mo_exactly_120 ?_
          refine q_aload_n d_Mo_exactly_121 rfl ?_
          refine q_gr (by assumption) pc_Mo 4 (by decide) w_fl_Mo_20 rfl (by rfl) d_Mo_exactly_122 ?_
          refine q_iload_n d_Mo_exactly_125 rfl ?_
          refine q_ial (i) (by assumption) (by omega) (by omega) (by omega) d_Mo_exactly_126 ?_
          refine q_topi (show _ = (b : Int) - 1 from (g7 i (by omega)).trans hdq) ?_
          refine q_iadd d_Mo_exactly_127 ?_
          refine q_topi (show _ = ((9 * i + (b - 1) : Nat) : Int) by omega) ?_
          refine q_callV (As := [vi ((54 + w : Nat) : Int), vi ((54 + w : Nat) : Int), vi ((9 * i + (b - 1) : Nat) : Int)]) (c_Mo_product l K (r := 54 + w) (i := 54 + w) (j := 9 * i + (b - 1)) (u := u) (v := v) ⟨hM0, hM1, hM2, hM3, hM4, hM5, hM6, hM7, hM8, hM9⟩ (by omega) (by omega) (by omega) (g4 w (Nat.le_refl _) (by omega)) ((hQ (b - 1) (by omega)).mv (g6 _ (by omega) (by omega) (by omega))) (hSt t (by omega) w (by omega)) hlq (by omega)) w_cd_Mo_product w_ini_Mo w_ml_Mo_76 w_im_Mo_product w_se_Mo_product (by assumption) rfl hd_Mo_product rfl (Nat.le_of_ble_eq_true rfl) d_Mo_exactly_128 (by decide) (by decide) (fun v σ4 hp => ?_)
          obtain ⟨rfl, k1, k2, k3⟩ := hp
          refine q_iinc_7 d_Mo_exactly_131 (by decide) rfl ?_
          refine q_goto (tgt := 99) d_Mo_exactly_134 (by decide) ?_
          refine ihw (w + 1) (by omega) (by omega) σ4 (fun y hy => (g2 y hy).mv (k3 _ (by omega))) (fun y h1 h2 => ?_) (fun y h1 h2 => (g4 y (by omega) h2).mv (k3 _ (by omega))) (g5.mv (k3 _ (by omega))) (fun r h1 h2 h3 => (g6 r h1 h2 h3).trans (k3 r (by omega))) (fun j hj => by rw [k2 _ (by omega) (by omega) (by omega) (by omega)]; exact g7 j hj) (fun q h1 h2 h3 h4 h5 => by rw [k2 q h1 h2 h3 h5]; exact g8 q h1 h2 h3 h4 h5) _ (by omega)
          exact if ey : y = w then by subst ey; exact k1 else (g3 y h1 (by omega)).mv (k3 _ (by omega))
      have loop1 : ∀ (r w : Nat), w + r = n - 1 - t → ∀ (σ3 : q_S), (∀ y, y < w → rV σ3 m (45 + y) (exw Q b P n t y * Q (b - 1))) → (∀ y, w ≤ y → y < n - 1 - t → rV σ3 m (45 + y) (exw Q b P n t y)) → (∀ y, n - b + 1 - t ≤ y → y ≤ n - b → rV σ3 m (54 + y) (exs Q b P n t y)) → rV σ3 m 101 (exw Q b P n t (n - 1 - t)) → (∀ r, r ≠ 101 → r ≠ 102 → (r < 45 ∨ 63 ≤ r) → rE σ σ3 m r) → (∀ j, j ≠ 5 → σ3 (m + 4) j = σ (m + 4) j) → (∀ q, q ≠ m + 1 → q ≠ m + 2 → q ≠ m + 3 → q ≠ m + 4 → q ≠ m + 9 → σ3 q = σ q) → ∀ x : Int, x = w → q_T l K L R_Mo b_Mo_exactly 8 none 4 (fun v σ' => v = none ∧ σ' (m + 4) o = ((n - b + 1 : Nat) : Int) - 1 ∧ (∀ k, k < n - b + 1 → rV σ' m (9 * o + k) ((exs Q b P n (n - b + 1) k).tdiv (gn (exs Q b P n (n - b + 1)) (n - b + 1) : Int) * (exs Q b P n (n - b + 1) (n - b)).sign)) ∧ (∀ r, (r < 97 ∨ 103 ≤ r) → (r < 45 ∨ 63 ≤ r) → (r < 9 * o ∨ 9 * o + (n - b + 1) ≤ r) → rE σ σ' m r) ∧ (∀ j, j ≠ o → j ≠ 5 → j ≠ 6 → σ' (m + 4) j = σ (m + 4) j) ∧ (∀ q, q ≠ m + 1 → q ≠ m + 2 → q ≠ m + 3 → q ≠ m + 4 → q ≠ m + 9 → σ' q = σ q)) 55 [some (.ref m), some (vi o), some (vi p), some (vi i), some (vi ((n - b : Nat) : Int)), some (vi s), some (vi ((n - 1 - t : Nat) : Int)), some (vi x)] [] σ3 := by
        intro r
        induction r with
        | zero =>
          intro w hw σ3 g2 g3 g4 g5 g6 g7 g8 x hx
          refine q_iload d_Mo_exactly_55 rfl ?_
          refine q_iload d_Mo_exactly_57 rfl ?_
          refine q_icmp_ge (tgt := 93) (by omega) (by omega) d_Mo_exactly_59 (by decide) (fun c59 => ?_) (fun c59 => absurd c59 (by omega))
          refine q_iload d_Mo_exactly_93 rfl ?_
          refine q_iconst d_Mo_exactly_95 rfl ?_
          refine q_iadd d_Mo_exactly_96 ?_
          refine q_topi (show _ = ((n - b - t + 1 : Nat) : Int) by omega) ?_
          refine q_ist_7 d_Mo_exactly_97 (by decide) rfl ?_
          exact loop2 t (n - b - t + 1) (by omega) (by omega) σ3 (fun v hv => g2 v (by omega)) (fun v h1 h2 => by omega) (fun v h1 h2 => g4 v (by omega) h2) g5 g6 g7 g8 _ rfl
        | succ r ihw =>
          intro w hw σ3 g2 g3 g4 g5 g6 g7 g8 x hx
          refine q_iload d_Mo_exactly_55 rfl ?_
          refine q_iload d_Mo_exactly_57 rfl ?_
          refine q_icmp_ge (tgt := 93) (by omega) (by omega) d_Mo_exactly_59 (by decide) (fun c59 => absurd c59 (by omega)) (fun c59 => ?_)
          refine q_aload_n d_Mo_exactly_62 rfl ?_
          refine q_bipush d_Mo_exactly_63 (by decide) ?_
          refine q_iload d_Mo_exactly_65 rfl ?_
          refine q_iadd d_Mo_exactly_67 ?_
          refine q_topi (show _ = ((45 + w : Nat) : Int) by omega) ?_
          refine q_bipush d_Mo_exactly_68 (by decide) ?_
          refine q_iload d_Mo_exactly_70 rfl ?_
          refine q_iadd d_Mo_exactly_72 ?_
          refine q_topi (show _ = ((45 + w : Nat) : Int) by omega) ?_
          refine q_bipush d_Mo_exactly_73 (by decide) ?_
          refine q_iload_n d_Mo_exactly_75 rfl ?_
          refine q_imul d_Mo_exactly_76 ?_
          refine q_aload_n d_Mo_exactly_77 rfl ?_
          refine q_gr (by assumption) pc_Mo 4 (by decide) w_fl_Mo_20 rfl (by rfl) d_Mo_exactly_78 ?_
          refine q_iload_n d_Mo_exactly_81 rfl ?_
          refine q_ial (i) (by assumption) (by omega) (by omega) (by omega) d_Mo_exactly_82 ?_
          refine q_topi (show _ = (b : Int) - 1 from (g7 i (by omega)).trans hdq) ?_
          refine q_iadd d_Mo_exactly_83 ?_
          refine q_topi (show _ = ((9 * i + (b - 1) : Nat) : Int) by omega) ?_
          refine q_callV (As := [vi ((45 + w : Nat) : Int), vi ((45 + w : Nat) : Int), vi ((9 * i + (b - 1) : Nat) : Int)]) (c_Mo_product l K (r := 45 + w) (i := 45 + w) (j := 9 * i + (b - 1)) (u := u) (v := v) ⟨hM0, hM1, hM2, hM3, hM4, hM5, hM6, hM7, hM8, hM9⟩ (by omega) (by omega) (by omega) (g3 w (Nat.le_refl _) (by omega)) ((hQ (b - 1) (by omega)).mv (g6 _ (by omega) (by omega) (by omega))) (hW t (by omega) w (by omega)) hlq (by omega)) w_cd_Mo_product w_ini_Mo w_ml_Mo_76 w_im_Mo_product w_se_Mo_product (by assumption) rfl hd_Mo_product rfl (Nat.le_of_ble_eq_true rfl) d_Mo_exactly_84 (by decide) (by decide) (fun v σ4 hp => ?_)
          obtain ⟨rfl, k1, k2, k3⟩ := hp
          refine q_iinc_7 d_Mo_exactly_87 (by decide) rfl ?_
          refine q_goto (tgt := 55) d_Mo_exactly_90 (by decide) ?_
          refine ihw (w + 1) (by omega) σ4 (fun y hy => ?_) (fun y h1 h2 => (g3 y (by omega) h2).mv (k3 _ (by omega))) (fun y h1 h2 => (g4 y h1 h2).mv (k3 _ (by omega))) (g5.mv (k3 _ (by omega))) (fun r h1 h2 h3 => (g6 r h1 h2 h3).trans (k3 r (by omega))) (fun j hj => by rw [k2 _ (by omega) (by omega) (by omega) (by omega)]; exact g7 j hj) (fun q h1 h2 h3 h4 h5 => by rw [k2 q h1 h2 h3 h5]; exact g8 q h1 h2 h3 h4 h5) _ (by omega)
          exact if ey : y = w then by subst ey; exact k1 else (g2 y (by omega)).mv (k3 _ (by omega))
      refine q_iload d_Mo_exactly_30 rfl ?_
      refine q_aload_n d_Mo_exactly_32 rfl ?_
      refine q_gr (by assumption) pc_Mo 4 (by decide) w_fl_Mo_20 rfl (by rfl) d_Mo_exactly_33 ?_
      refine q_iload_n d_Mo_exactly_36 rfl ?_
      refine q_ial (i) (by assumption) (by omega) (by omega) (by omega) d_Mo_exactly_37 ?_
      refine q_topi (show _ = (b : Int) - 1 from (f5 i (by omega)).trans hdq) ?_
      refine q_iadd d_Mo_exactly_38 ?_
      refine q_topi (show _ = ((n - 1 - t : Nat) : Int) by omega) ?_
      refine q_ist_6 d_Mo_exactly_39 (by decide) rfl ?_
      refine q_aload_n d_Mo_exactly_41 rfl ?_
      refine q_bipush d_Mo_exactly_42 (by decide) ?_
      refine q_bipush d_Mo_exactly_44 (by decide) ?_
      refine q_iload d_Mo_exactly_46 rfl ?_
      refine q_iadd d_Mo_exactly_48 ?_
      refine q_topi (show _ = ((45 + (n - 1 - t) : Nat) : Int) by omega) ?_
      refine q_callV (As := [vi 101, vi ((45 + (n - 1 - t) : Nat) : Int)]) (c_Mo_copy l K (r := 101) (i := 45 + (n - 1 - t)) ⟨hM0, hM1, hM2, hM3, hM4, hM5, hM6, hM7, hM8, hM9⟩ (by decide) (by omega) (f2 (n - 1 - t) (by omega))) w_cd_Mo_copy w_ini_Mo w_ml_Mo_69 w_im_Mo_copy w_se_Mo_copy (by assumption) rfl hd_Mo_copy rfl (Nat.le_of_ble_eq_true rfl) d_Mo_exactly_49 (by decide) (by decide) (fun v σ2 hp => ?_)
      obtain ⟨rfl, k1, k2, k3, k4⟩ := hp
      refine q_iconst d_Mo_exactly_52 rfl ?_
      refine q_ist_7 d_Mo_exactly_53 (by decide) rfl ?_
      exact loop1 (n - 1 - t) 0 (by omega) σ2 (fun v hv => by omega) (fun v _ hv => (f2 v (by omega)).mv (k4 _ (by omega))) (fun v h1 h2 => (f3 v h1 h2).mv (k4 _ (by omega))) k1 (fun r h1 h2 h3 => (f4 r h1 h2 h3).trans (k4 r h1)) (fun j hj => by rw [k2 _ (by omega) (by omega) (by omega) (by omega)]; exact f5 j hj) (fun q h1 h2 h3 h4 h5 => by rw [k2 q h1 h2 h3 h5]; exact f6 q h1 h2 h3 h4 h5) _ rfl
  refine q_aload_n d_Mo_exactly_0 rfl ?_
  refine q_iconst d_Mo_exactly_1 rfl ?_
  refine q_iload_n d_Mo_exactly_2 rfl ?_
  refine q_callV (As := [vi 5, vi p]) (c_Mo_copyPoly l K (p := 5) (i := p) (n := n) (P := P) ⟨hM0, hM1, hM2, hM3, hM4, hM5, hM6, hM7, hM8, hM9⟩ (by decide) hp (by omega) hn hdp hP) w_cd_Mo_copyPoly w_ini_Mo w_ml_Mo_89 w_im_Mo_copyPoly w_se_Mo_copyPoly (by assumption) rfl hd_Mo_copyPoly rfl (Nat.le_of_ble_eq_true rfl) d_Mo_exactly_3 (by decide) (by decide) (fun v σ1 hp => ?_)
  obtain ⟨rfl, k1, k2, k3, k4, k5⟩ := hp
  refine q_aload_n d_Mo_exactly_6 rfl ?_
  refine q_gr (by assumption) pc_Mo 4 (by decide) w_fl_Mo_20 rfl (by rfl) d_Mo_exactly_7 ?_
  refine q_iload_n d_Mo_exactly_10 rfl ?_
  refine q_ial (p) (by assumption) (by omega) (by omega) (by omega) d_Mo_exactly_11 ?_
  refine q_topi (show _ = (n : Int) - 1 from (k4 p (by omega)).trans hdp) ?_
  refine q_aload_n d_Mo_exactly_12 rfl ?_
  refine q_gr (by assumption) pc_Mo 4 (by decide) w_fl_Mo_20 rfl (by rfl) d_Mo_exactly_13 ?_
  refine q_iload_n d_Mo_exactly_16 rfl ?_
  refine q_ial (i) (by assumption) (by omega) (by omega) (by omega) d_Mo_exactly_17 ?_
  refine q_topi (show _ = (b : Int) - 1 from (k4 i (by omega)).trans hdq) ?_
  refine q_isub d_Mo_exactly_18 ?_
  refine q_topi (show _ = ((n - b : Nat) : Int) by omega) ?_
  refine q_ist_4 d_Mo_exactly_19 (by decide) rfl ?_
  refine q_iload d_Mo_exactly_21 rfl ?_
  refine q_ist_5 d_Mo_exactly_23 (by decide) rfl ?_
  exact outer (n - b + 1) 0 (by omega) σ1 (fun y hy => k2 y (by omega)) (fun y h1 h2 => by omega) (fun r h1 h2 h3 => k3 r (by omega)) (fun j hj => k4 j hj) (fun q h1 h2 h3 h4 h5 => k5 q h1 h2 h3 h4) _ (by omega)
