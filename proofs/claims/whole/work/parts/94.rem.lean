/-! THE REFERENCE: remainder -/
/-- one step: A, of n coefficients, times Q's top one, less a multiple of Q -/
def rsp (Q : Nat → Int) (b : Nat) (A : Nat → Int) (n k : Nat) : Int := A k * Q (b - 1) - shP Q (n - b) k * A (n - 1)
/-- after t steps: the coefficients, and how many -/
def rst (Q : Nat → Int) (b : Nat) (P : Nat → Int) (n : Nat) : Nat → (Nat → Int) × Nat
  | 0 => (P, n)
  | t + 1 => if (rst Q b P n t).2 < b then rst Q b P n t else (rsp Q b (rst Q b P n t).1 (rst Q b P n t).2, top (rsp Q b (rst Q b P n t).1 (rst Q b P n t).2) ((rst Q b P n t).2 - 1))
theorem rst_s {Q : Nat → Int} {b : Nat} {P : Nat → Int} {n t : Nat} {A : Nat → Int} {c : Nat} (h : rst Q b P n t = (A, c)) (hc : b ≤ c) : rst Q b P n (t + 1) = (rsp Q b A c, top (rsp Q b A c) (c - 1)) := by
  rw [rst, h, if_neg (by show ¬ c < b; omega)]
set_option maxHeartbeats 4000000 in
set_option maxRecDepth 100000 in
theorem c_Mo_remainder (l : Launch) (K : pw_K) {L : q_L} {σ : q_S} {m p i n0 b u v : Nat} {P Q : Nat → Int} (hL : mL L m) (hp : p < 10) (hi : i < 10) (hpi : p ≠ i) (hn : n0 ≤ 9) (hb1 : 1 ≤ b) (hb9 : b ≤ 9) (hdp : σ (m + 4) p = (n0 : Int) - 1) (hdq : σ (m + 4) i = (b : Int) - 1) (hP : ∀ k, k < n0 → rV σ m (9 * p + k) (P k)) (hQ : ∀ k, k < b → rV σ m (9 * i + k) (Q k)) (hB : ∀ t k, k < (rst Q b P n0 t).2 → (((rst Q b P n0 t).1 k).natAbs : Int) < 65536 ^ u) (hQb : ∀ k, k < b → ((Q k).natAbs : Int) < 65536 ^ v) (huv : u + v + 1 ≤ 1024) : q_C l K L y_Mo_remainder b_Mo_remainder 5 none 3 [.ref m, vi p, vi i] σ (fun v σ' => v = none ∧ ∃ t, (rst Q b P n0 t).2 < b ∧ σ' (m + 4) p = ((rst Q b P n0 t).2 : Int) - 1 ∧ (∀ k, k < (rst Q b P n0 t).2 → rV σ' m (9 * p + k) ((rst Q b P n0 t).1 k)) ∧ (∀ r, r ≠ 101 → r ≠ 102 → (r < 9 * p ∨ 9 * p + n0 ≤ r) → rE σ σ' m r) ∧ (∀ j, j ≠ p → σ' (m + 4) j = σ (m + 4) j) ∧ (∀ q, q ≠ m + 1 → q ≠ m + 2 → q ≠ m + 3 → q ≠ m + 4 → q ≠ m + 9 → σ' q = σ q)) := by
  obtain ⟨hM0, hM1, hM2, hM3, hM4, hM5, hM6, hM7, hM8, hM9⟩ := hL
  refine q_start [some (.ref m), some (vi p), some (vi i), none, none] (by decide) (Nat.le_of_ble_eq_true rfl) (fun q h => h) ?_
  have loop : ∀ (fu t : Nat) (σ1 : q_S) (A : Nat → Int) (c : Nat), rst Q b P n0 t = (A, c) → c ≤ n0 → c ≤ fu → σ1 (m + 4) p = (c : Int) - 1 → (∀ k, k < c → rV σ1 m (9 * p + k) (A k)) → (∀ r, r ≠ 101 → r ≠ 102 → (r < 9 * p ∨ 9 * p + n0 ≤ r) → rE σ σ1 m r) → (∀ j, j ≠ p → σ1 (m + 4) j = σ (m + 4) j) → (∀ q, q ≠ m + 1 → q ≠ m + 2 → q ≠ m + 3 → q ≠ m + 4 → q ≠ m + 9 → σ1 q = σ q) → q_T l K L R_Mo b_Mo_remainder 5 none 3 (fun v σ' => v = none ∧ ∃ t, (rst Q b P n0 t).2 < b ∧ σ' (m + 4) p = ((rst Q b P n0 t).2 : Int) - 1 ∧ (∀ k, k < (rst Q b P n0 t).2 → rV σ' m (9 * p + k) ((rst Q b P n0 t).1 k)) ∧ (∀ r, r ≠ 101 → r ≠ 102 → (r < 9 * p ∨ 9 * p + n0 ≤ r) → rE σ σ' m r) ∧ (∀ j, j ≠ p → σ' (m + 4) j = σ (m + 4) j) ∧ (∀ q, q ≠ m + 1 → q ≠ m + 2 → q ≠ m + 3 → q ≠ m + 4 → q ≠ m + 9 → σ' q = σ q)) 0 [some (.ref m), some (vi p), some (vi i), none, none] [] σ1 := by
    intro fu
    induction fu with
    | zero =>
      intro t σ1 A c hst hc hf f2 f3 f4 f5 f6
      refine q_aload_n d_Mo_remainder_0 rfl ?_
      refine q_gr (by assumption) pc_Mo 4 (by decide) w_fl_Mo_20 rfl (by rfl) d_Mo_remainder_1 ?_
      refine q_iload_n d_Mo_remainder_4 rfl ?_
      refine q_ial (p) (by assumption) (by omega) (by omega) (by omega) d_Mo_remainder_5 ?_
      refine q_topi f2 ?_
      refine q_aload_n d_Mo_remainder_6 rfl ?_
      refine q_gr (by assumption) pc_Mo 4 (by decide) w_fl_Mo_20 rfl (by rfl) d_Mo_remainder_7 ?_
      refine q_iload_n d_Mo_remainder_10 rfl ?_
      refine q_ial (i) (by assumption) (by omega) (by omega) (by omega) d_Mo_remainder_11 ?_
      refine q_topi (show _ = (b : Int) - 1 from (f5 i (by omega)).trans hdq) ?_
      refine q_icmp_lt (tgt := 171) (by omega) (by omega) d_Mo_remainder_12 (by decide) (fun c12 => ?_) (fun c12 => absurd c12 (by omega))
      exact q_vret rfl (⟨rfl, t, by rw [hst]; show c < b; omega, by rw [hst]; exact f2, fun k hk => by rw [hst] at hk ⊢; exact f3 k hk, f4, f5, f6⟩) d_Mo_remainder_171
    | succ fu ih =>
      intro t σ1 A c hst hc hf f2 f3 f4 f5 f6
      refine q_aload_n d_Mo_remainder_0 rfl ?_
      refine q_gr (by assumption) pc_Mo 4 (by decide) w_fl_Mo_20 rfl (by rfl) d_Mo_remainder_1 ?_
      refine q_iload_n d_Mo_remainder_4 rfl ?_
      refine q_ial (p) (by assumption) (by omega) (by omega) (by omega) d_Mo_remainder_5 ?_
      refine q_topi f2 ?_
      refine q_aload_n d_Mo_remainder_6 rfl ?_
      refine q_gr (by assumption) pc_Mo 4 (by decide) w_fl_Mo_20 rfl (by rfl) d_Mo_remainder_7 ?_
      refine q_iload_n d_Mo_remainder_10 rfl ?_
      refine q_ial (i) (by assumption) (by omega) (by omega) (by omega) d_Mo_remainder_11 ?_
      refine q_topi (show _ = (b : Int) - 1 from (f5 i (by omega)).trans hdq) ?_
      refine q_icmp_lt (tgt := 171) (by omega) (by omega) d_Mo_remainder_12 (by decide) (fun cl => ?_) (fun cl => ?_)
      · exact q_vret rfl (⟨rfl, t, by rw [hst]; show c < b; omega, by rw [hst]; exact f2, fun k hk => by rw [hst] at hk ⊢; exact f3 k hk, f4, f5, f6⟩) d_Mo_remainder_171
      · have hbc : b ≤ c := by omega
        have hst1 := rst_s hst hbc
        have hA : ∀ k, k < c → ((A k).natAbs : Int) < 65536 ^ u := fun k hk => by have := hB t k (by rw [hst]; exact hk); rw [hst] at this; exact this
        have hlq := hQb (b - 1) (by omega)
        have hla := hA (c - 1) (by omega)
        have loop2 : ∀ (r w : Nat), w + r = b → ∀ (σ3 : q_S), σ3 (m + 4) p = (c : Int) - 1 → (∀ x, c - b ≤ x → x < w + (c - b) → rV σ3 m (9 * p + x) (A x * Q (b - 1) + -1 * (Q (x - (c - b)) * A (c - 1)))) → (∀ x, (x < c - b ∨ (w + (c - b) ≤ x ∧ x < c)) → rV σ3 m (9 * p + x) (A x * Q (b - 1))) → rV σ3 m 101 (A (c - 1)) → (∀ r, r ≠ 101 → r ≠ 102 → (r < 9 * p ∨ 9 * p + n0 ≤ r) → rE σ σ3 m r) → (∀ j, j ≠ p → σ3 (m + 4) j = σ (m + 4) j) → (∀ q, q ≠ m + 1 → q ≠ m + 2 → q ≠ m + 3 → q ≠ m + 4 → q ≠ m + 9 → σ3 q = σ q) → ∀ s : Int, s = w → q_T l K L R_Mo b_Mo_remainder 5 none 3 (fun v σ' => v = none ∧ ∃ t, (rst Q b P n0 t).2 < b ∧ σ' (m + 4) p = ((rst Q b P n0 t).2 : Int) - 1 ∧ (∀ k, k < (rst Q b P n0 t).2 → rV σ' m (9 * p + k) ((rst Q b P n0 t).1 k)) ∧ (∀ r, r ≠ 101 → r ≠ 102 → (r < 9 * p ∨ 9 * p + n0 ≤ r) → rE σ σ' m r) ∧ (∀ j, j ≠ p → σ' (m + 4) j = σ (m + 4) j) ∧ (∀ q, q ≠ m + 1 → q ≠ m + 2 → q ≠ m + 3 → q ≠ m + 4 → q ≠ m + 9 → σ' q = σ q)) 98 [some (.ref m), some (vi p), some (vi i), some (vi ((c - b : Nat) : Int)), some (vi s)] [] σ3 := by
          intro r
          induction r with
          | zero =>
            intro w hw σ3 g1 g2 g3 g4 g5 g6 g7 s hs
            refine q_iload d_Mo_remainder_98 rfl ?_
            refine q_aload_n d_Mo_remainder_100 rfl ?_
            refine q_gr (by assumption) pc_Mo 4 (by decide) w_fl_Mo_20 rfl (by rfl) d_Mo_remainder_101 ?_
            refine q_iload_n d_Mo_remainder_104 rfl ?_
            refine q_ial (i) (by assumption) (by omega) (by omega) (by omega) d_Mo_remainder_105 ?_
            refine q_topi (show _ = (b : Int) - 1 from (g6 i (by omega)).trans hdq) ?_
            refine q_icmp_gt (tgt := 155) (by omega) (by omega) d_Mo_remainder_106 (by decide) (fun c106 => ?_) (fun c106 => absurd c106 (by omega))
            refine q_aload_n d_Mo_remainder_155 rfl ?_
            refine q_iload_n d_Mo_remainder_156 rfl ?_
            refine q_aload_n d_Mo_remainder_157 rfl ?_
            refine q_gr (by assumption) pc_Mo 4 (by decide) w_fl_Mo_20 rfl (by rfl) d_Mo_remainder_158 ?_
            refine q_iload_n d_Mo_remainder_161 rfl ?_
            refine q_ial (p) (by assumption) (by omega) (by omega) (by omega) d_Mo_remainder_162 ?_
            refine q_topi g1 ?_
            refine q_iconst d_Mo_remainder_163 rfl ?_
            refine q_isub d_Mo_remainder_164 ?_
            refine q_topi (show _ = ((c - 1 : Nat) : Int) - 1 by omega) ?_
            have hnew : ∀ k, k < c → rV σ3 m (9 * p + k) (rsp Q b A c k) := fun k hk => by
              unfold rsp shP
              by_cases hd : k < c - b
              · rw [if_pos hd, Int.zero_mul, Int.sub_zero]; exact g3 k (Or.inl hd) 
              · rw [if_neg hd]; have := g2 k (by omega) (by omega); rw [Int.neg_mul, Int.one_mul, ← Int.sub_eq_add_neg] at this; exact this
            refine q_callV (As := [vi p, vi (((c - 1 : Nat) : Int) - 1)]) (q_Mo_trimPoly l K (N := c - 1) (P := rsp Q b A c) ⟨hM0, hM1, hM2, hM3, hM4, hM5, hM6, hM7, hM8, hM9⟩ hp (by omega) rfl (fun k hk => hnew k (by omega))) w_cd_Mo_trimPoly w_ini_Mo w_ml_Mo_86 w_im_Mo_trimPoly w_se_Mo_trimPoly (by assumption) rfl hd_Mo_trimPoly rfl (Nat.le_of_ble_eq_true rfl) d_Mo_remainder_165 (by decide) (by decide) (fun v σ4 hp => ?_)
            obtain ⟨rfl, k1, k2, k3⟩ := hp
            refine q_goto (tgt := 0) d_Mo_remainder_168 (by decide) ?_
            refine q_drop_4 ?_
            refine q_drop_3 ?_
            have htl := top_le (rsp Q b A c) (c - 1)
            have hr : ∀ r, rE σ3 σ4 m r := fun r => ⟨fun v hv => by show σ4 (m + 1) _ = _; rw [k3 _ (by omega)]; rfl, by rw [k3 _ (by omega)], by rw [k3 _ (by omega)]⟩
            exact ih (t + 1) σ4 (rsp Q b A c) (top (rsp Q b A c) (c - 1)) hst1 (by omega) (by omega) k1 (fun k hk => (hnew k (by omega)).mv (hr _)) (fun r h1 h2 h3 => (g5 r h1 h2 h3).trans (hr r)) (fun j hj => by rw [k2 j hj]; exact g6 j hj) (fun q h1 h2 h3 h4 h5 => by rw [k3 q h4]; exact g7 q h1 h2 h3 h4 h5)
          | succ r ihw =>
            intro w hw σ3 g1 g2 g3 g4 g5 g6 g7 s hs
            refine q_iload d_Mo_remainder_98 rfl ?_
            refine q_aload_n d_Mo_remainder_100 rfl ?_
            refine q_gr (by assumption) pc_Mo 4 (by decide) w_fl_Mo_20 rfl (by rfl) d_Mo_remainder_101 ?_
            refine q_iload_n d_Mo_remainder_104 rfl ?_
            refine q_ial (i) (by assumption) (by omega) (by omega) (by omega) d_Mo_remainder_105 ?_
            refine q_topi (show _ = (b : Int) - 1 from (g6 i (by omega)).trans hdq) ?_
            refine q_icmp_gt (tgt := 155) (by omega) (by omega) d_Mo_remainder_106 (by decide) (fun c106 => absurd c106 (by omega)) (fun c106 => ?_)
            refine q_aload_n d_Mo_remainder_109 rfl ?_
            refine q_bipush d_Mo_remainder_110 (by decide) ?_
            refine q_bipush d_Mo_remainder_112 (by decide) ?_
            refine q_iload_n d_Mo_remainder_114 rfl ?_
            refine q_imul d_Mo_remainder_115 ?_
            refine q_iload d_Mo_remainder_116 rfl ?_
            refine q_iadd d_Mo_remainder_118 ?_
            refine q_topi (show _ = ((9 * i + w : Nat) : Int) by omega) ?_
            refine q_bipush d_Mo_remainder_119 (by decide) ?_
            refine q_callV (As := [vi 102, vi ((9 * i + w : Nat) : Int), vi 101]) (c_Mo_product l K (r := 102) (i := 9 * i + w) (j := 101) (u := v) (v := u) ⟨hM0, hM1, hM2, hM3, hM4, hM5, hM6, hM7, hM8, hM9⟩ (by decide) (by omega) (by decide) ((hQ w (by omega)).mv (g5 _ (by omega) (by omega) (by omega))) g4 (hQb w (by omega)) hla (by omega)) w_cd_Mo_product w_ini_Mo w_ml_Mo_76 w_im_Mo_product w_se_Mo_product (by assumption) rfl hd_Mo_product rfl (Nat.le_of_ble_eq_true rfl) d_Mo_remainder_121 (by decide) (by decide) (fun v σ4 hp => ?_)
            obtain ⟨rfl, k1, k2, k3⟩ := hp
            refine q_aload_n d_Mo_remainder_124 rfl ?_
            refine q_bipush d_Mo_remainder_125 (by decide) ?_
            refine q_iload_n d_Mo_remainder_127 rfl ?_
            refine q_imul d_Mo_remainder_128 ?_
            refine q_iload d_Mo_remainder_129 rfl ?_
            refine q_iadd d_Mo_remainder_131 ?_
            refine q_iload_n d_Mo_remainder_132 rfl ?_
            refine q_iadd d_Mo_remainder_133 ?_
            refine q_topi (show _ = ((9 * p + (w + (c - b)) : Nat) : Int) by omega) ?_
            refine q_bipush d_Mo_remainder_134 (by decide) ?_
            refine q_iload_n d_Mo_remainder_136 rfl ?_
            refine q_imul d_Mo_remainder_137 ?_
            refine q_iload d_Mo_remainder_138 rfl ?_
            refine q_iadd d_Mo_remainder_140 ?_
            refine q_iload_n d_Mo_remainder_141 rfl ?_
            refine q_iadd d_Mo_remainder_142 ?_
            refine q_topi (show _ = ((9 * p + (w + (c - b)) : Nat) : Int) by omega) ?_
            refine q_bipush d_Mo_remainder_143 (by decide) ?_
            refine q_iconst d_Mo_remainder_145 rfl ?_
            refine q_callV (As := [vi ((9 * p + (w + (c - b)) : Nat) : Int), vi ((9 * p + (w + (c - b)) : Nat) : Int), vi 102, vi (-1)]) (c_Mo_sum l K (r := 9 * p + (w + (c - b))) (i := 9 * p + (w + (c - b))) (j := 102) (u := u + v) ⟨hM0, hM1, hM2, hM3, hM4, hM5, hM6, hM7, hM8, hM9⟩ (by omega) (by omega) (by decide) ((g3 (w + (c - b)) (Or.inr ⟨by omega, by omega⟩)).mv (k3 _ (by omega))) k1 (Or.inr rfl) (mul_lt_pow (hA _ (by omega)) hlq) (by rw [Nat.add_comm]; exact mul_lt_pow (hQb w (by omega)) hla) (by omega)) w_cd_Mo_sum w_ini_Mo w_ml_Mo_83 w_im_Mo_sum w_se_Mo_sum (by assumption) rfl hd_Mo_sum rfl (Nat.le_of_ble_eq_true rfl) d_Mo_remainder_146 (by decide) (by decide) (fun v σ5 hp => ?_)
            obtain ⟨rfl, k4, k5, k6⟩ := hp
            refine q_iinc_4 d_Mo_remainder_149 (by decide) rfl ?_
            refine q_goto (tgt := 98) d_Mo_remainder_152 (by decide) ?_
            refine ihw (w + 1) (by omega) σ5 (by rw [k5 _ (by omega) (by omega) (by omega) (by omega), k2 _ (by omega) (by omega) (by omega) (by omega)]; exact g1) (fun x h1 h2 => ?_) (fun x hx => ((g3 x (by omega)).mv (k3 _ (by omega))).mv (k6 _ (by omega))) ((g4.mv (k3 _ (by omega))).mv (k6 _ (by omega))) (fun r h1 h2 h3 => ((g5 r h1 h2 h3).trans (k3 r h2)).trans (k6 r (by omega))) (fun j hj => by rw [k5 _ (by omega) (by omega) (by omega) (by omega), k2 _ (by omega) (by omega) (by omega) (by omega)]; exact g6 j hj) (fun q h1 h2 h3 h4 h5 => by rw [k5 q h1 h2 h3 h5, k2 q h1 h2 h3 h5]; exact g7 q h1 h2 h3 h4 h5) _ (by omega)
            exact if ex : x = w + (c - b) then by subst ex; rw [Nat.add_sub_cancel]; exact k4 else ((g2 x h1 (by omega)).mv (k3 _ (by omega))).mv (k6 _ (by omega))
        have loop1 : ∀ (r w : Nat), w + r = c → ∀ (σ3 : q_S), σ3 (m + 4) p = (c : Int) - 1 → (∀ x, x < w → rV σ3 m (9 * p + x) (A x * Q (b - 1))) → (∀ x, w ≤ x → x < c → rV σ3 m (9 * p + x) (A x)) → rV σ3 m 101 (A (c - 1)) → (∀ r, r ≠ 101 → r ≠ 102 → (r < 9 * p ∨ 9 * p + n0 ≤ r) → rE σ σ3 m r) → (∀ j, j ≠ p → σ3 (m + 4) j = σ (m + 4) j) → (∀ q, q ≠ m + 1 → q ≠ m + 2 → q ≠ m + 3 → q ≠ m + 4 → q ≠ m + 9 → σ3 q = σ q) → ∀ s : Int, s = w → q_T l K L R_Mo b_Mo_remainder 5 none 3 (fun v σ' => v = none ∧ ∃ t, (rst Q b P n0 t).2 < b ∧ σ' (m + 4) p = ((rst Q b P n0 t).2 : Int) - 1 ∧ (∀ k, k < (rst Q b P n0 t).2 → rV σ' m (9 * p + k) ((rst Q b P n0 t).1 k)) ∧ (∀ r, r ≠ 101 → r ≠ 102 → (r < 9 * p ∨ 9 * p + n0 ≤ r) → rE σ σ' m r) ∧ (∀ j, j ≠ p → σ' (m + 4) j = σ (m + 4) j) ∧ (∀ q, q ≠ m + 1 → q ≠ m + 2 → q ≠ m + 3 → q ≠ m + 4 → q ≠ m + 9 → σ' q = σ q)) 49 [some (.ref m), some (vi p), some (vi i), some (vi ((c - b : Nat) : Int)), some (vi s)] [] σ3 := by
          intro r
          induction r with
          | zero =>
            intro w hw σ3 g1 g2 g3 g4 g5 g6 g7 s hs
            refine q_iload d_Mo_remainder_49 rfl ?_
            refine q_aload_n d_Mo_remainder_51 rfl ?_
            refine q_gr (by assumption) pc_Mo 4 (by decide) w_fl_Mo_20 rfl (by rfl) d_Mo_remainder_52 ?_
            refine q_iload_n d_Mo_remainder_55 rfl ?_
            refine q_ial (p) (by assumption) (by omega) (by omega) (by omega) d_Mo_remainder_56 ?_
            refine q_topi g1 ?_
            refine q_icmp_gt (tgt := 95) (by omega) (by omega) d_Mo_remainder_57 (by decide) (fun c57 => ?_) (fun c57 => absurd c57 (by omega))
            refine q_iconst d_Mo_remainder_95 rfl ?_
            refine q_ist_4 d_Mo_remainder_96 (by decide) rfl ?_
            exact loop2 b 0 (by omega) σ3 g1 (fun v h1 h2 => by omega) (fun v hv => g2 v (by omega)) g4 g5 g6 g7 _ rfl
          | succ r ihw =>
            intro w hw σ3 g1 g2 g3 g4 g5 g6 g7 s hs
            refine q_iload d_Mo_remainder_49 rfl ?_
            refine q_aload_n d_Mo_remainder_51 rfl ?_
            refine q_gr (by assumption) pc_Mo 4 (by decide) w_fl_Mo_20 rfl (by rfl) d_Mo_remainder_52 ?_
            refine q_iload_n d_Mo_remainder_55 rfl ?_
            refine q_ial (p) (by assumption) (by omega) (by omega) (by omega) d_Mo_remainder_56 ?_
            refine q_topi g1 ?_
            refine q_icmp_gt (tgt := 95) (by omega) (by omega) d_Mo_remainder_57 (by decide) (fun c57 => absurd c57 (by omega)) (fun c57 => ?_)
            refine q_aload_n d_Mo_remainder_60 rfl ?_
            refine q_bipush d_Mo_remainder_61 (by decide) ?_
            refine q_iload_n d_Mo_remainder_63 rfl ?_
            refine q_imul d_Mo_remainder_64 ?_
            refine q_iload d_Mo_remainder_65 rfl ?_
            refine q_iadd d_Mo_remainder_67 ?_
            refine q_topi (show _ = ((9 * p + w : Nat) : Int) by omega) ?_
            refine q_bipush d_Mo_remainder_68 (by decide) ?_
            refine q_iload_n d_Mo_remainder_70 rfl ?_
            refine q_imul d_Mo_remainder_71 ?_
            refine q_iload d_Mo_remainder_72 rfl ?_
            refine q_iadd d_Mo_remainder_74 ?_
            refine q_topi (show _ = ((9 * p + w : Nat) : Int) by omega) ?_
            refine q_bipush d_Mo_remainder_75 (by decide) ?_
            refine q_iload_n d_Mo_remainder_77 rfl ?_
            refine q_imul d_Mo_remainder_78 ?_
            refine q_aload_n d_Mo_remainder_79 rfl ?_
            refine q_gr (by assumption) pc_Mo 4 (by decide) w_fl_Mo_20 rfl (by rfl) d_Mo_remainder_80 ?_
            refine q_iload_n d_Mo_remainder_83 rfl ?_
            refine q_ial (i) (by assumption) (by omega) (by omega) (by omega) d_Mo_remainder_84 ?_
            refine q_topi (show _ = (b : Int) - 1 from (g6 i (by omega)).trans hdq) ?_
            refine q_iadd d_Mo_remainder_85 ?_
            refine q_topi (show _ = ((9 * i + (b - 1) : Nat) : Int) by omega) ?_
            refine q_callV (As := [vi ((9 * p + w : Nat) : Int), vi ((9 * p + w : Nat) : Int), vi ((9 * i + (b - 1) : Nat) : Int)]) (c_Mo_product l K (r := 9 * p + w) (i := 9 * p + w) (j := 9 * i + (b - 1)) (u := u) (v := v) ⟨hM0, hM1, hM2, hM3, hM4, hM5, hM6, hM7, hM8, hM9⟩ (by omega) (by omega) (by omega) (g3 w (Nat.le_refl _) (by omega)) ((hQ (b - 1) (by omega)).mv (g5 _ (by omega) (by omega) (by omega))) (hA w (by omega)) hlq (by omega)) w_cd_Mo_product w_ini_Mo w_ml_Mo_76 w_im_Mo_product w_se_Mo_product (by assumption) rfl hd_Mo_product rfl (Nat.le_of_ble_eq_true rfl) d_Mo_remainder_86 (by decide) (by decide) (fun v σ4 hp => ?_)
            obtain ⟨rfl, k1, k2, k3⟩ := hp
            refine q_iinc_4 d_Mo_remainder_89 (by decide) rfl ?_
            refine q_goto (tgt := 49) d_Mo_remainder_92 (by decide) ?_
            refine ihw (w + 1) (by omega) σ4 (by rw [k2 _ (by omega) (by omega) (by omega) (by omega)]; exact g1) (fun x hx => ?_) (fun x h1 h2 => (g3 x (by omega) h2).mv (k3 _ (by omega))) (g4.mv (k3 _ (by omega))) (fun r h1 h2 h3 => (g5 r h1 h2 h3).trans (k3 r (by omega))) (fun j hj => by rw [k2 _ (by omega) (by omega) (by omega) (by omega)]; exact g6 j hj) (fun q h1 h2 h3 h4 h5 => by rw [k2 q h1 h2 h3 h5]; exact g7 q h1 h2 h3 h4 h5) _ (by omega)
            exact if ex : x = w then by subst ex; exact k1 else (g2 x (by omega)).mv (k3 _ (by omega))
        refine q_aload_n d_Mo_remainder_15 rfl ?_
        refine q_gr (by assumption) pc_Mo 4 (by decide) w_fl_Mo_20 rfl (by rfl) d_Mo_remainder_16 ?_
        refine q_iload_n d_Mo_remainder_19 rfl ?_
        refine q_ial (p) (by assumption) (by omega) (by omega) (by omega) d_Mo_remainder_20 ?_
        refine q_topi f2 ?_
        refine q_aload_n d_Mo_remainder_21 rfl ?_
        refine q_gr (by assumption) pc_Mo 4 (by decide) w_fl_Mo_20 rfl (by rfl) d_Mo_remainder_22 ?_
        refine q_iload_n d_Mo_remainder_25 rfl ?_
        refine q_ial (i) (by assumption) (by omega) (by omega) (by omega) d_Mo_remainder_26 ?_
        refine q_topi (show _ = (b : Int) - 1 from (f5 i (by omega)).trans hdq) ?_
        refine q_isub d_Mo_remainder_27 ?_
        refine q_topi (show _ = ((c - b : Nat) : Int) by omega) ?_
        refine q_ist_n_3 d_Mo_remainder_28 (by decide) rfl ?_
        refine q_aload_n d_Mo_remainder_29 rfl ?_
        refine q_bipush d_Mo_remainder_30 (by decide) ?_
        refine q_bipush d_Mo_remainder_32 (by decide) ?_
        refine q_iload_n d_Mo_remainder_34 rfl ?_
        refine q_imul d_Mo_remainder_35 ?_
        refine q_aload_n d_Mo_remainder_36 rfl ?_
        refine q_gr (by assumption) pc_Mo 4 (by decide) w_fl_Mo_20 rfl (by rfl) d_Mo_remainder_37 ?_
        refine q_iload_n d_Mo_remainder_40 rfl ?_
        refine q_ial (p) (by assumption) (by omega) (by omega) (by omega) d_Mo_remainder_41 ?_
        refine q_topi f2 ?_
        refine q_iadd d_Mo_remainder_42 ?_
        refine q_topi (show _ = ((9 * p + (c - 1) : Nat) : Int) by omega) ?_
        refine q_callV (As := [vi 101, vi ((9 * p + (c - 1) : Nat) : Int)]) (c_Mo_copy l K (r := 101) (i := 9 * p + (c - 1)) (x := A (c - 1)) ⟨hM0, hM1, hM2, hM3, hM4, hM5, hM6, hM7, hM8, hM9⟩ (by decide) (by omega) (f3 (c - 1) (by omega))) w_cd_Mo_copy w_ini_Mo w_ml_Mo_69 w_im_Mo_copy w_se_Mo_copy (by assumption) rfl hd_Mo_copy rfl (Nat.le_of_ble_eq_true rfl) d_Mo_remainder_43 (by decide) (by decide) (fun v σ2 hp => ?_)
        obtain ⟨rfl, k1, k2, k3, k4⟩ := hp
        refine q_iconst d_Mo_remainder_46 rfl ?_
        refine q_ist_4 d_Mo_remainder_47 (by decide) rfl ?_
        exact loop1 c 0 (by omega) σ2 (by rw [k2 _ (by omega) (by omega) (by omega) (by omega)]; exact f2) (fun v hv => by omega) (fun v _ hv => (f3 v hv).mv (k4 _ (by omega))) k1 (fun r h1 h2 h3 => (f4 r h1 h2 h3).trans (k4 r h1)) (fun j hj => by rw [k2 _ (by omega) (by omega) (by omega) (by omega)]; exact f5 j hj) (fun q h1 h2 h3 h4 h5 => by rw [k2 q h1 h2 h3 h5]; exact f6 q h1 h2 h3 h4 h5) _ rfl
  exact loop n0 0 σ P n0 rfl (Nat.le_refl _) (Nat.le_refl _) hdp hP (fun r _ _ _ => rE.rfl) (fun j _ => rfl) (fun q _ _ _ _ _ => rfl)
