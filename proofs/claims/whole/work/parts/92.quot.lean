/-! THE REFERENCE: quotient -/
theorem rE_a {σ : q_S} {m r a k : Nat} {z : Int} (h : r ≠ a) (hk : k < 1024) : rE σ (q_up σ (m + 1) (1024 * a + k) z) m r := ⟨fun u hu => mr_ne _ _ (by omega), by rw [q_up_a _ _ (by omega)], by rw [q_up_a _ _ (by omega)]⟩
set_option maxHeartbeats 4000000 in
set_option maxRecDepth 100000 in
theorem c_Mo_quotient (l : Launch) (K : pw_K) {L : q_L} {σ : q_S} {m a b i j : Nat} {x y : Int} (hL : mL L m) (ha : a < 160) (hb : b < 160) (hi : i < 160) (hj : j < 160) (hab : a ≠ b) (hia : i ≠ a) (hib : i ≠ b) (hja : j ≠ a) (hjb : j ≠ b) (hx : rV σ m i x) (hy : rV σ m j y) (hy0 : y ≠ 0) (hyb : (y.natAbs : Int) < 65536 ^ 1023) : q_C l K L y_Mo_quotient b_Mo_quotient 8 none 2 [.ref m, vi a, vi b, vi i, vi j] σ (fun v σ' => v = none ∧ rV σ' m a ((x.natAbs / y.natAbs : Nat) : Int) ∧ rV σ' m b ((x.natAbs % y.natAbs : Nat) : Int) ∧ rO σ σ' m ∧ σ' (m + 9) = σ (m + 9) ∧ ∀ r, r ≠ a → r ≠ b → rE σ σ' m r) := by
  obtain ⟨hM0, hM1, hM2, hM3, hM4, hM5, hM6, hM7, hM8, hM9⟩ := hL
  obtain ⟨n, ⟨h1, h2, h3, h4, hX⟩, htx⟩ := hx
  have hY0 : (0 : Int) < (y.natAbs : Int) := by omega
  refine q_start [some (.ref m), some (vi a), some (vi b), some (vi i), some (vi j), none, none, none] (by decide) (Nat.le_of_ble_eq_true rfl) (fun q h => h) ?_
  have loopB : ∀ (c : Nat), c ≤ n → ∀ (σ1 : q_S) (R : Int), (∀ q, q ≠ m + 1 → q ≠ m + 2 → q ≠ m + 3 → σ1 q = σ q) → (∀ r, r ≠ a → r ≠ b → rE σ σ1 m r) → (∀ u, u < n → 0 ≤ mr σ1 m a u ∧ mr σ1 m a u < 65536) → (∀ u, u < c → mr σ1 m a u = 0) → rM σ1 m b R → (0 ≤ R ∧ R < (y.natAbs : Int)) → dv 65536 (fun u => mr σ1 m a (c + u)) (n - c) * (y.natAbs : Int) + R = dv 65536 (fun u => mr σ m i (c + u)) (n - c) → ∀ t : Int, t = (c : Int) - 1 → q_T l K L R_Mo b_Mo_quotient 8 none 2 (fun v σ' => v = none ∧ rV σ' m a ((x.natAbs / y.natAbs : Nat) : Int) ∧ rV σ' m b ((x.natAbs % y.natAbs : Nat) : Int) ∧ rO σ σ' m ∧ σ' (m + 9) = σ (m + 9) ∧ ∀ r, r ≠ a → r ≠ b → rE σ σ' m r) 51 [some (.ref m), some (vi a), some (vi b), some (vi i), some (vi j), some (vi n), some (vi t), none] [] σ1 := by
    intro c
    induction c with
    | zero =>
      intro hc σ1 R f1 f2 f3 f4 f5 hR f6 t ht
      refine q_iload d_Mo_quotient_51 rfl ?_
      refine q_if_lt (tgt := 188) (by omega) d_Mo_quotient_53 (by decide) (fun c53 => ?_) (fun c53 => absurd c53 (by omega))
      refine q_aload_n d_Mo_quotient_188 rfl ?_
      refine q_gr (by assumption) pc_Mo 3 (by decide) w_fl_Mo_17 rfl (by rfl) d_Mo_quotient_189 ?_
      refine q_iload_n d_Mo_quotient_192 rfl ?_
      refine q_iconst d_Mo_quotient_193 rfl ?_
      refine q_ias (a) (by assumption) (by omega) (by omega) (by omega) d_Mo_quotient_194 ?_
      refine q_aload_n d_Mo_quotient_195 rfl ?_
      refine q_iload_n d_Mo_quotient_196 rfl ?_
      refine q_iload d_Mo_quotient_197 rfl ?_
      have hxq : dv 65536 (mr σ1 m a) n * y.natAbs + R = x.natAbs := by
        have h9 := f6
        rw [dv_win0, dv_win0, hX] at h9
        exact h9
      have hq0 := (dv_range (B := 65536) (by decide) f3).1
      have huq := (Int.ediv_emod_unique (a := (x.natAbs : Int)) (r := R) (q := dv 65536 (mr σ1 m a) n) hY0).2 ⟨by rw [Int.mul_comm]; omega, hR.1, hR.2⟩
      have hQ : dv 65536 (mr σ1 m a) n = ((x.natAbs / y.natAbs : Nat) : Int) := by
        rw [Int.natCast_ediv]; exact huq.1.symm
      have hRm : R = ((x.natAbs % y.natAbs : Nat) : Int) := by
        rw [Int.natCast_emod]; exact huq.2.symm
      refine q_callV (As := [vi a, vi n]) (c_Mo_trim l K (N := n) ⟨hM0, hM1, hM2, hM3, hM4, hM5, hM6, hM7, hM8, hM9⟩ ha h3 (fun u hu => by rw [mr_o _ _ (by omega)]; exact f3 u hu)) w_cd_Mo_trim w_ini_Mo w_ml_Mo_57 w_im_Mo_trim w_se_Mo_trim (by assumption) rfl hd_Mo_trim rfl (Nat.le_of_ble_eq_true rfl) d_Mo_quotient_199 (by decide) (by decide) (fun v σ2 hp => ?_)
      obtain ⟨rfl, ⟨n2, k1, k2⟩, k3, k4⟩ := hp
      obtain ⟨n3, s3, hU3, ht3⟩ := f5
      have hdm : dv 65536 (mr (q_up σ1 (m + 3) a 1) m a) n = dv 65536 (mr σ1 m a) n := dv_congr (fun u hu => mr_o _ _ (by omega))
      rw [hdm, hQ, q_up_self] at k1
      have k1q := rU.val k1 k2 (x := ((x.natAbs / y.natAbs : Nat) : Int)) (by rw [Int.natAbs_natCast]) (fun h9 => (Int.sign_eq_one_of_pos (by omega)).symm)
      have hn3 : σ2 (m + 2) b = (n3 : Int) := by rw [(k4 b (by omega)).1, q_up_a _ _ (by omega)]; exact hU3.1
      refine q_aload_n d_Mo_quotient_202 rfl ?_
      refine q_gr (by assumption) pc_Mo 3 (by decide) w_fl_Mo_17 rfl (by rfl) d_Mo_quotient_203 ?_
      refine q_iload_n d_Mo_quotient_206 rfl ?_
      refine q_aload_n d_Mo_quotient_207 rfl ?_
      refine q_gr (by assumption) pc_Mo 2 (by decide) w_fl_Mo_14 rfl (by rfl) d_Mo_quotient_208 ?_
      refine q_iload_n d_Mo_quotient_211 rfl ?_
      refine q_ial (b) (by assumption) (by omega) (by omega) (by omega) d_Mo_quotient_212 ?_
      refine q_topi hn3 ?_
      refine q_jn1 (V := if (n3 : Int) ≤ 0 then 0 else 1) 221 (fun jn => ?_) ?_
      · refine q_if_le (tgt := 220) (by have := hU3.2.2.1; omega) d_Mo_quotient_213 (by decide) (fun cs => ?_) (fun cs => ?_)
        · refine q_iconst d_Mo_quotient_220 rfl ?_
          exact jn _ ((if_pos cs).symm)
        · refine q_iconst d_Mo_quotient_216 rfl ?_
          refine q_goto (tgt := 221) d_Mo_quotient_217 (by decide) ?_
          exact jn _ ((if_neg cs).symm)
      · refine q_ias (b) (by assumption) (by omega) (by omega) (by omega) d_Mo_quotient_221 ?_
        refine q_vret rfl ⟨rfl, k1q.mv ⟨fun u hu => by rw [mr_o _ _ (by omega)], by rw [q_up_a _ _ (by omega)], by rw [q_up_k _ _ hab]⟩, ?_, fun q h1 h2 h3 h4 => by rw [q_up_a _ _ h3, k3 q h2 h3, q_up_a _ _ h3]; exact f1 q h1 h2 h3, by rw [q_up_a _ _ (by omega), k3 _ (by omega) (by omega), q_up_a _ _ (by omega)]; exact f1 _ (by omega) (by omega) (by omega), fun r h1 h2 => (f2 r h1 h2).trans ⟨fun u hu => by rw [mr_o _ _ (by omega)]; show σ2 (m + 1) _ = _; rw [k3 _ (by omega) (by omega)]; exact mr_o _ _ (by omega), by rw [q_up_a _ _ (by omega), (k4 r h1).1, q_up_a _ _ (by omega)], by rw [q_up_k _ _ h2, (k4 r h1).2, q_up_k _ _ h1]⟩⟩ d_Mo_quotient_222
        have hb1 : ∀ u, u < 1024 → mr (q_up σ2 (m + 3) b (if (n3 : Int) ≤ 0 then 0 else 1)) m b u = mr σ1 m b u := fun u hu => by
          rw [mr_o _ _ (by omega)]; show σ2 (m + 1) _ = _; rw [k3 _ (by omega) (by omega)]; exact mr_o _ _ (by omega)
        refine ⟨n3, ⟨by rw [q_up_a _ _ (by omega)]; exact hn3, ?_, hU3.2.2.1, fun u hu => by rw [hb1 u (by have := hU3.2.2.1; omega)]; exact hU3.2.2.2.1 u hu, ?_⟩, fun h9 => by rw [hb1 _ (by have := hU3.2.2.1; omega)]; exact ht3 h9⟩
        · rw [q_up_self, ← hRm]
          have hz := hU3.zero ht3
          by_cases h9 : n3 = 0
          · rw [if_pos (by omega), hz.mp h9]; rfl
          · rw [if_neg (by omega)]
            have : R ≠ 0 := fun h10 => h9 (hz.mpr h10)
            exact (Int.sign_eq_one_of_pos (by omega)).symm
        · rw [Int.natAbs_natCast, ← hRm, ← hU3.2.2.2.2]
          exact dv_congr (fun u hu => hb1 u (by have := hU3.2.2.1; omega))
    | succ c ih =>
      intro hc σ1 R f1 f2 f3 f4 f5 hR f6 t ht
      refine q_iload d_Mo_quotient_51 rfl ?_
      refine q_if_lt (tgt := 188) (by omega) d_Mo_quotient_53 (by decide) (fun c53 => absurd c53 (by omega)) (fun c53 => ?_)
      obtain ⟨n3, s3, hU3, ht3⟩ := f5
      have hn3 : n3 ≤ 1023 := (hU3.le ht3).mpr (by omega)
      have hdl := dv_low 65536 (mr σ1 m a) (show c < n by omega)
      have hdx := dv_low 65536 (mr σ m i) (show c < n by omega)
      have hxc := h4 c (by omega)
      have loopD : ∀ (fu : Nat) (R2 v : Int) (σ4 : q_S), R2.toNat ≤ fu → rM σ4 m b R2 → (0 ≤ R2 ∧ 0 ≤ v ∧ v < 65536) → v * (y.natAbs : Int) + R2 = mr σ m i c + 65536 * R → (∀ q, q ≠ m + 1 → q ≠ m + 2 → q ≠ m + 3 → σ4 q = σ q) → (∀ r, r ≠ a → r ≠ b → rE σ σ4 m r) → (∀ u, u < n → u ≠ c → mr σ4 m a u = mr σ1 m a u) → mr σ4 m a c = v → q_T l K L R_Mo b_Mo_quotient 8 none 2 (fun v σ' => v = none ∧ rV σ' m a ((x.natAbs / y.natAbs : Nat) : Int) ∧ rV σ' m b ((x.natAbs % y.natAbs : Nat) : Int) ∧ rO σ σ' m ∧ σ' (m + 9) = σ (m + 9) ∧ ∀ r, r ≠ a → r ≠ b → rE σ σ' m r) 133 [some (.ref m), some (vi a), some (vi b), some (vi i), some (vi j), some (vi n), some (vi t), none] [] σ4 := by
        intro fu
        induction fu with
        | zero =>
          intro R2 v σ4 p1 p2 p3 p4 p5 p6 p7 p8
          have vlt := p3.2.2
          refine q_aload_n d_Mo_quotient_133 rfl ?_
          refine q_iload_n d_Mo_quotient_134 rfl ?_
          refine q_iload d_Mo_quotient_135 rfl ?_
          refine q_callV (As := [vi b, vi j]) (c_Mo_againstM l K ⟨hM0, hM1, hM2, hM3, hM4, hM5, hM6, hM7, hM8, hM9⟩ hb hj p2 (hy.m.mv (p6 j hja hjb))) w_cd_Mo_against w_ini_Mo w_ml_Mo_49 w_im_Mo_against w_se_Mo_against (by assumption) rfl hd_Mo_against rfl (Nat.le_of_ble_eq_true rfl) d_Mo_quotient_137 (by decide) (by decide) (fun v σ9 hp => ?_)
          obtain ⟨rfl, hσ⟩ := hp
          rw [hσ]
          clear hσ σ9
          have sgn3 := sg3 (R2 - (y.natAbs : Int))
          have hneg := Int.sign_eq_neg_one_of_neg (show R2 - (y.natAbs : Int) < 0 by omega)
          refine q_if_lt (tgt := 182) (by omega) d_Mo_quotient_140 (by decide) (fun c140 => ?_) (fun c140 => absurd c140 (by omega))
          refine q_iinc_6 d_Mo_quotient_182 (by decide) rfl ?_
          refine q_goto (tgt := 51) d_Mo_quotient_185 (by decide) ?_
          refine ih (by omega) σ4 R2 p5 p6 (fun u hu => ?_) (fun u hu => by rw [p7 u (by omega) (by omega)]; exact f4 u (by omega)) p2 ⟨p3.1, by omega⟩ ?_ _ (by omega)
          · exact if eu : u = c then by subst eu; rw [p8]; exact ⟨p3.2.1, vlt⟩ else by rw [p7 u hu eu]; exact f3 u hu
          · rw [dv_low 65536 (mr σ4 m a) (show c < n by omega), hdx, ← f6, p8]
            rw [show dv 65536 (fun u => mr σ4 m a (c + 1 + u)) (n - (c + 1)) = dv 65536 (fun u => mr σ1 m a (c + 1 + u)) (n - (c + 1)) from dv_congr (fun u hu => p7 _ (by omega) (by omega))]
            generalize dv 65536 (fun u => mr σ1 m a (c + 1 + u)) (n - (c + 1)) = G at *
            have := p4
            grind
        | succ fu ihd =>
          intro R2 v σ4 p1 p2 p3 p4 p5 p6 p7 p8
          have vlt := p3.2.2
          refine q_aload_n d_Mo_quotient_133 rfl ?_
          refine q_iload_n d_Mo_quotient_134 rfl ?_
          refine q_iload d_Mo_quotient_135 rfl ?_
          refine q_callV (As := [vi b, vi j]) (c_Mo_againstM l K ⟨hM0, hM1, hM2, hM3, hM4, hM5, hM6, hM7, hM8, hM9⟩ hb hj p2 (hy.m.mv (p6 j hja hjb))) w_cd_Mo_against w_ini_Mo w_ml_Mo_49 w_im_Mo_against w_se_Mo_against (by assumption) rfl hd_Mo_against rfl (Nat.le_of_ble_eq_true rfl) d_Mo_quotient_137 (by decide) (by decide) (fun v σ9 hp => ?_)
          obtain ⟨rfl, hσ⟩ := hp
          rw [hσ]
          clear hσ σ9
          have sgn3 := sg3 (R2 - (y.natAbs : Int))
          refine q_if_lt (tgt := 182) (by omega) d_Mo_quotient_140 (by decide) (fun cd => ?_) (fun cd => ?_)
          · refine q_iinc_6 d_Mo_quotient_182 (by decide) rfl ?_
            refine q_goto (tgt := 51) d_Mo_quotient_185 (by decide) ?_
            have hlt : R2 < (y.natAbs : Int) := by
              have := Int.sign_eq_neg_one_iff_neg.1 (show (R2 - (y.natAbs : Int)).sign = -1 by omega)
              omega
            refine ih (by omega) σ4 R2 p5 p6 (fun u hu => ?_) (fun u hu => by rw [p7 u (by omega) (by omega)]; exact f4 u (by omega)) p2 ⟨p3.1, hlt⟩ ?_ _ (by omega)
            · exact if eu : u = c then by subst eu; rw [p8]; have := Int.mul_nonneg p3.2.1 (show (0 : Int) ≤ (y.natAbs : Int) by omega); exact ⟨p3.2.1, vlt⟩ else by rw [p7 u hu eu]; exact f3 u hu
            · rw [dv_low 65536 (mr σ4 m a) (show c < n by omega), hdx, ← f6, p8]
              rw [show dv 65536 (fun u => mr σ4 m a (c + 1 + u)) (n - (c + 1)) = dv 65536 (fun u => mr σ1 m a (c + 1 + u)) (n - (c + 1)) from dv_congr (fun u hu => p7 _ (by omega) (by omega))]
              generalize dv 65536 (fun u => mr σ1 m a (c + 1 + u)) (n - (c + 1)) = G at *
              have := p4
              grind
          · have hge : (y.natAbs : Int) ≤ R2 := by
              have h9 : 0 ≤ R2 - (y.natAbs : Int) := Int.sign_nonneg_iff.1 (by omega)
              omega
            obtain ⟨n5, s5, hU5, ht5⟩ := p2
            obtain ⟨ny, hUy, hty⟩ := hy
            have hUy2 := hUy.mv (p6 j hja hjb)
            have hny : 0 < ny := by
              rcases Nat.eq_zero_or_pos ny with h9 | h9
              · have := (hUy.zero hty).mp h9; omega
              · exact h9
            have hgs := gs_ok (g := mr σ4 m b) (h := mr σ4 m j) hU5.2.2.2.1 hUy2.2.2.2.1 hU5.2.2.2.2 hUy2.2.2.2.2 hny hge
            refine q_aload_n d_Mo_quotient_143 rfl ?_
            refine q_iload_n d_Mo_quotient_144 rfl ?_
            refine q_iload d_Mo_quotient_145 rfl ?_
            refine q_callV (As := [vi b, vi j]) (c_Mo_guess l K ⟨hM0, hM1, hM2, hM3, hM4, hM5, hM6, hM7, hM8, hM9⟩ hb hj hU5.1 hU5.2.2.1 hU5.2.2.2.1 hUy2.1 hUy2.2.2.1 hUy2.2.2.2.1) w_cd_Mo_guess w_ini_Mo w_ml_Mo_61 w_im_Mo_guess w_se_Mo_guess (by assumption) rfl hd_Mo_guess rfl (Nat.le_of_ble_eq_true rfl) d_Mo_quotient_147 (by decide) (by decide) (fun v σ9 hp => ?_)
            obtain ⟨rfl, hσ⟩ := hp
            rw [hσ]
            clear hσ σ9
            generalize (if gav (mr σ4 m b) n5 ny 3 / (gbv (mr σ4 m j) ny 2 + 1) < 1 then 1 else gav (mr σ4 m b) n5 ny 3 / (gbv (mr σ4 m j) ny 2 + 1)) = g at hgs ⊢
            have hvg : v + g < 65536 := by
              rcases Int.lt_or_le (v + g) 65536 with h9 | h9
              · exact h9
              · exfalso
                have h10 := Int.mul_le_mul_of_nonneg_right h9 (show (0 : Int) ≤ (y.natAbs : Int) by omega)
                have h11 : (v + g) * (y.natAbs : Int) = v * (y.natAbs : Int) + g * (y.natAbs : Int) := Int.add_mul _ _ _
                omega
            refine q_ist_7 d_Mo_quotient_150 (by decide) rfl ?_
            refine q_aload_n d_Mo_quotient_152 rfl ?_
            refine q_gr (by assumption) pc_Mo 1 (by decide) w_fl_Mo_8 rfl (by rfl) d_Mo_quotient_153 ?_
            refine q_sipush d_Mo_quotient_156 (by decide) ?_
            refine q_iload_n d_Mo_quotient_159 rfl ?_
            refine q_imul d_Mo_quotient_160 ?_
            refine q_iload d_Mo_quotient_161 rfl ?_
            refine q_iadd d_Mo_quotient_163 ?_
            refine q_dup2 d_Mo_quotient_164 rfl rfl ?_
            refine q_ial (1024 * a + c) (by assumption) (by omega) (by omega) (by omega) d_Mo_quotient_165 ?_
            refine q_topi (show _ = v from p8) ?_
            refine q_iload d_Mo_quotient_166 rfl ?_
            refine q_iadd d_Mo_quotient_168 ?_
            refine q_ias (1024 * a + c) (by assumption) (by omega) (by omega) (by omega) d_Mo_quotient_169 ?_
            refine q_aload_n d_Mo_quotient_170 rfl ?_
            refine q_iload_n d_Mo_quotient_171 rfl ?_
            refine q_iload d_Mo_quotient_172 rfl ?_
            refine q_iload d_Mo_quotient_174 rfl ?_
            refine q_callV (As := [vi b, vi j, vi g]) (c_Mo_lessens l K ⟨hM0, hM1, hM2, hM3, hM4, hM5, hM6, hM7, hM8, hM9⟩ hb hj (by omega) ⟨n5, s5, hU5.mv (rE_a (by omega) (by omega)), fun h9 => by rw [mr_ne _ _ (by have := hU5.2.2.1; omega)]; exact ht5 h9⟩ ((rV.m ⟨ny, hUy, hty⟩).mv ((p6 j hja hjb).trans (rE_a (by omega) (by omega)))) (by omega) hgs.2) w_cd_Mo_lessens w_ini_Mo w_ml_Mo_64 w_im_Mo_lessens w_se_Mo_lessens (by assumption) rfl hd_Mo_lessens rfl (Nat.le_of_ble_eq_true rfl) d_Mo_quotient_176 (by decide) (by decide) (fun v σ5 hp => ?_)
            obtain ⟨rfl, k1, k2, k3, k4⟩ := hp
            refine q_goto (tgt := 133) d_Mo_quotient_179 (by decide) ?_
            refine q_drop_7 ?_
            have hge1 : (y.natAbs : Int) ≤ g * (y.natAbs : Int) := by
              have := Int.mul_le_mul_of_nonneg_right hgs.1 (show (0 : Int) ≤ (y.natAbs : Int) by omega)
              omega
            refine ihd (R2 - g * (y.natAbs : Int)) (v + g) σ5 (by omega) k1 (by omega) ?_ (fun q h1 h2 h3 => ?_) (fun r h1 h2 => ?_) (fun u hu hc => ?_) ?_
            · rw [Int.add_mul]; omega
            · by_cases h9 : q = m + 9
              · rw [h9, k3, q_up_a _ _ (by omega)]; exact p5 _ (by omega) (by omega) (by omega)
              · rw [k2 q h1 h2 h3 h9, q_up_a _ _ h1]; exact p5 q h1 h2 h3
            · exact ((p6 r h1 h2).trans (rE_a (by omega) (by omega))).trans (k4 r h2)
            · rw [(k4 a hab).1 u (by omega), mr_ne _ _ (by omega)]; exact p7 u hu hc
            · rw [(k4 a hab).1 c (by omega), mr_up]
      have loopC : ∀ (w : Nat), w ≤ n3 → ∀ (σ2 : q_S), (∀ q, q ≠ m + 1 → σ2 q = σ1 q) → (∀ r u, r ≠ b → u < 1024 → mr σ2 m r u = mr σ1 m r u) → (∀ u, u ≤ w → mr σ2 m b u = mr σ1 m b u) → (∀ u, w < u → u ≤ n3 → mr σ2 m b u = mr σ1 m b (u - 1)) → ∀ s : Int, s = w → q_T l K L R_Mo b_Mo_quotient 8 none 2 (fun v σ' => v = none ∧ rV σ' m a ((x.natAbs / y.natAbs : Nat) : Int) ∧ rV σ' m b ((x.natAbs % y.natAbs : Nat) : Int) ∧ rO σ σ' m ∧ σ' (m + 9) = σ (m + 9) ∧ ∀ r, r ≠ a → r ≠ b → rE σ σ' m r) 64 [some (.ref m), some (vi a), some (vi b), some (vi i), some (vi j), some (vi n), some (vi t), some (vi s)] [] σ2 := by
        intro w
        induction w with
        | zero =>
          intro hw σ2 g1 g2 g3 g4 s hs
          refine q_iload d_Mo_quotient_64 rfl ?_
          refine q_if_le (tgt := 103) (by omega) d_Mo_quotient_66 (by decide) (fun c66 => ?_) (fun c66 => absurd c66 (by omega))
          refine q_aload_n d_Mo_quotient_103 rfl ?_
          refine q_gr (by assumption) pc_Mo 1 (by decide) w_fl_Mo_8 rfl (by rfl) d_Mo_quotient_104 ?_
          refine q_sipush d_Mo_quotient_107 (by decide) ?_
          refine q_iload_n d_Mo_quotient_110 rfl ?_
          refine q_imul d_Mo_quotient_111 ?_
          refine q_aload_n d_Mo_quotient_112 rfl ?_
          refine q_iload_n d_Mo_quotient_113 rfl ?_
          refine q_iload d_Mo_quotient_114 rfl ?_
          refine q_callV (As := [vi i, vi t]) (by rw [show t = (c : Int) by omega]; exact c_Mo_at l K (r := i) (n := n) c ⟨hM0, hM1, hM2, hM3, hM4, hM5, hM6, hM7, hM8, hM9⟩ hi (by rw [g1 _ (by omega), (f2 i hia hib).2.1]; exact h1) h3 (by omega)) w_cd_Mo_at w_ini_Mo w_ml_Mo_45 w_im_Mo_at w_se_Mo_at (by assumption) rfl hd_Mo_at rfl (Nat.le_of_ble_eq_true rfl) d_Mo_quotient_116 (by decide) (by decide) (fun v σ9 hp => ?_)
          obtain ⟨rfl, hσ⟩ := hp
          rw [hσ]
          clear hσ σ9
          refine q_topi (show _ = mr σ m i c from (if_pos (by omega)).trans ((g2 i c hib (by omega)).trans ((f2 i hia hib).1 c (by omega)))) ?_
          refine q_ias (1024 * b) (by assumption) (by omega) (by omega) (by omega) d_Mo_quotient_119 ?_
          refine q_aload_n d_Mo_quotient_120 rfl ?_
          refine q_iload_n d_Mo_quotient_121 rfl ?_
          refine q_aload_n d_Mo_quotient_122 rfl ?_
          refine q_gr (by assumption) pc_Mo 2 (by decide) w_fl_Mo_14 rfl (by rfl) d_Mo_quotient_123 ?_
          refine q_iload_n d_Mo_quotient_126 rfl ?_
          refine q_ial (b) (by assumption) (by omega) (by omega) (by omega) d_Mo_quotient_127 ?_
          refine q_topi (show _ = (n3 : Int) by rw [q_up_a _ _ (by omega), g1 _ (by omega)]; exact hU3.1) ?_
          refine q_iconst d_Mo_quotient_128 rfl ?_
          refine q_iadd d_Mo_quotient_129 ?_
          refine q_topi (show (n3 : Int) + 1 = ((n3 + 1 : Nat) : Int) by omega) ?_
          have hb0 : ∀ z : Int, mr (q_up σ2 (m + 1) (1024 * b) z) m b 0 = z := fun z => mr_up _ _ _ 0 _
          have hbs : ∀ (z : Int) (u : Nat), 0 < u → mr (q_up σ2 (m + 1) (1024 * b) z) m b u = mr σ2 m b u := fun z u hu => mr_ne (k := 0) _ _ (by omega)
          have hbr : ∀ (z : Int) (r u : Nat), r ≠ b → u < 1024 → mr (q_up σ2 (m + 1) (1024 * b) z) m r u = mr σ2 m r u := fun z r u hr hu => mr_ne (k := 0) _ _ (by omega)
          refine q_callV (As := [vi b, vi ((n3 + 1 : Nat) : Int)]) (c_Mo_trim l K (N := n3 + 1) ⟨hM0, hM1, hM2, hM3, hM4, hM5, hM6, hM7, hM8, hM9⟩ hb (by omega) (fun u hu => by
              rcases Nat.eq_zero_or_pos u with eu | eu
              · subst eu; rw [hb0]; exact hxc
              · rw [hbs _ u eu, g4 u eu (by omega)]; exact hU3.2.2.2.1 (u - 1) (by omega))) w_cd_Mo_trim w_ini_Mo w_ml_Mo_57 w_im_Mo_trim w_se_Mo_trim (by assumption) rfl hd_Mo_trim rfl (Nat.le_of_ble_eq_true rfl) d_Mo_quotient_130 (by decide) (by decide) (fun v σ3 hp => ?_)
          obtain ⟨rfl, ⟨n4, k1, k2⟩, k3, k4⟩ := hp
          have hval : dv 65536 (mr (q_up σ2 (m + 1) (1024 * b) (mr σ m i c)) m b) (n3 + 1) = mr σ m i c + 65536 * R := by
            rw [dv_shift, hb0]
            congr 2
            rw [← hU3.2.2.2.2]
            exact dv_congr (fun u hu => by rw [hbs _ (u + 1) (by omega), g4 (u + 1) (by omega) (by omega), Nat.add_sub_cancel])
          rw [hval] at k1
          refine q_drop_7 ?_
          refine loopD (mr σ m i c + 65536 * R).toNat (mr σ m i c + 65536 * R) 0 σ3 (by omega) ⟨n4, _, k1, k2⟩ (by omega) (by omega) (fun q h1 h2 h3 => ?_) (fun r h1 h2 => ?_) (fun u hu hc => ?_) ?_
          · rw [k3 q h2 h3, q_up_a _ _ h1, g1 q h1]; exact f1 q h1 h2 h3
          · refine (f2 r h1 h2).trans ⟨fun u hu => ?_, ?_, ?_⟩
            · show σ3 (m + 1) _ = _
              rw [k3 _ (by omega) (by omega)]
              exact (hbr _ r u h2 hu).trans (g2 r u h2 hu)
            · rw [(k4 r h2).1, q_up_a _ _ (by omega), g1 _ (by omega)]
            · rw [(k4 r h2).2, q_up_a _ _ (by omega), g1 _ (by omega)]
          · show σ3 (m + 1) _ = _
            rw [k3 _ (by omega) (by omega)]
            exact (hbr _ a u hab (by omega)).trans (g2 a u hab (by omega))
          · show σ3 (m + 1) _ = _
            rw [k3 _ (by omega) (by omega)]
            exact ((hbr _ a c hab (by omega)).trans (g2 a c hab (by omega))).trans (f4 c (by omega))
        | succ w ihc =>
          intro hw σ2 g1 g2 g3 g4 s hs
          refine q_iload d_Mo_quotient_64 rfl ?_
          refine q_if_le (tgt := 103) (by omega) d_Mo_quotient_66 (by decide) (fun c66 => absurd c66 (by omega)) (fun c66 => ?_)
          refine q_aload_n d_Mo_quotient_69 rfl ?_
          refine q_gr (by assumption) pc_Mo 1 (by decide) w_fl_Mo_8 rfl (by rfl) d_Mo_quotient_70 ?_
          refine q_sipush d_Mo_quotient_73 (by decide) ?_
          refine q_iload_n d_Mo_quotient_76 rfl ?_
          refine q_imul d_Mo_quotient_77 ?_
          refine q_iload d_Mo_quotient_78 rfl ?_
          refine q_iadd d_Mo_quotient_80 ?_
          refine q_aload_n d_Mo_quotient_81 rfl ?_
          refine q_gr (by assumption) pc_Mo 1 (by decide) w_fl_Mo_8 rfl (by rfl) d_Mo_quotient_82 ?_
          refine q_sipush d_Mo_quotient_85 (by decide) ?_
          refine q_iload_n d_Mo_quotient_88 rfl ?_
          refine q_imul d_Mo_quotient_89 ?_
          refine q_iload d_Mo_quotient_90 rfl ?_
          refine q_iadd d_Mo_quotient_92 ?_
          refine q_iconst d_Mo_quotient_93 rfl ?_
          refine q_isub d_Mo_quotient_94 ?_
          refine q_ial (1024 * b + w) (by assumption) (by omega) (by omega) (by omega) d_Mo_quotient_95 ?_
          refine q_topi (show _ = mr σ1 m b w from g3 w (by omega)) ?_
          refine q_ias (1024 * b + (w + 1)) (by assumption) (by omega) (by omega) (by omega) d_Mo_quotient_96 ?_
          refine q_iinc_7 d_Mo_quotient_97 (by decide) rfl ?_
          refine q_goto (tgt := 64) d_Mo_quotient_100 (by decide) ?_
          refine ihc (by omega) _ (fun q h1 => by rw [q_up_a _ _ h1]; exact g1 q h1) (fun r u h1 h2 => (mr_ne _ _ (by omega)).trans (g2 r u h1 h2)) (fun u hu => (mr_ne _ _ (by omega)).trans (g3 u (by omega))) (fun u h1 h2 => ?_) _ (by omega)
          exact if eu : u = w + 1 then by subst eu; rw [mr_up, Nat.add_sub_cancel] else by rw [mr_ne _ _ (by omega)]; exact g4 u (by omega) h2
      refine q_aload_n d_Mo_quotient_56 rfl ?_
      refine q_gr (by assumption) pc_Mo 2 (by decide) w_fl_Mo_14 rfl (by rfl) d_Mo_quotient_57 ?_
      refine q_iload_n d_Mo_quotient_60 rfl ?_
      refine q_ial (b) (by assumption) (by omega) (by omega) (by omega) d_Mo_quotient_61 ?_
      refine q_topi (show _ = (n3 : Int) from hU3.1) ?_
      refine q_ist_7 d_Mo_quotient_62 (by decide) rfl ?_
      exact loopC n3 (Nat.le_refl _) σ1 (fun q _ => rfl) (fun r u _ _ => rfl) (fun u _ => rfl) (fun u h1 h2 => by omega) _ rfl
  have loopA : ∀ (r k : Nat), k + r = n → ∀ (σ1 : q_S), (∀ q, q ≠ m + 1 → σ1 q = σ q) → (∀ r u, r ≠ a → u < 1024 → mr σ1 m r u = mr σ m r u) → (∀ u, u < k → mr σ1 m a u = 0) → ∀ t : Int, t = k → q_T l K L R_Mo b_Mo_quotient 8 none 2 (fun v σ' => v = none ∧ rV σ' m a ((x.natAbs / y.natAbs : Nat) : Int) ∧ rV σ' m b ((x.natAbs % y.natAbs : Nat) : Int) ∧ rO σ σ' m ∧ σ' (m + 9) = σ (m + 9) ∧ ∀ r, r ≠ a → r ≠ b → rE σ σ' m r) 11 [some (.ref m), some (vi a), some (vi b), some (vi i), some (vi j), some (vi n), some (vi t), none] [] σ1 := by
    intro r
    induction r with
    | zero =>
      intro k hk σ1 f1 f2 f3 t ht
      refine q_iload d_Mo_quotient_11 rfl ?_
      refine q_iload d_Mo_quotient_13 rfl ?_
      refine q_icmp_ge (tgt := 38) (by omega) (by omega) d_Mo_quotient_15 (by decide) (fun c15 => ?_) (fun c15 => absurd c15 (by omega))
      refine q_aload_n d_Mo_quotient_38 rfl ?_
      refine q_gr (by assumption) pc_Mo 2 (by decide) w_fl_Mo_14 rfl (by rfl) d_Mo_quotient_39 ?_
      refine q_iload_n d_Mo_quotient_42 rfl ?_
      refine q_iconst d_Mo_quotient_43 rfl ?_
      refine q_ias (b) (by assumption) (by omega) (by omega) (by omega) d_Mo_quotient_44 ?_
      refine q_iload d_Mo_quotient_45 rfl ?_
      refine q_iconst d_Mo_quotient_47 rfl ?_
      refine q_isub d_Mo_quotient_48 ?_
      refine q_ist_6 d_Mo_quotient_49 (by decide) rfl ?_
      obtain rfl : k = n := by omega
      have e0 : k - k = 0 := by omega
      exact loopB k (Nat.le_refl _) _ 0 (fun q h1 h2 h3 => by rw [q_up_a _ _ h2]; exact f1 q h1) (fun r h1 h2 => ⟨fun u hu => by rw [mr_o _ _ (by omega)]; exact f2 r u h1 hu, by rw [q_up_k _ _ h2]; rw [f1 _ (by omega)], by rw [q_up_a _ _ (by omega), f1 _ (by omega)]⟩) (fun u hu => by rw [mr_o _ _ (by omega), f3 u hu]; omega) (fun u hu => by rw [mr_o _ _ (by omega)]; exact f3 u hu) ⟨0, _, ⟨by rw [q_up_self]; rfl, rfl, by omega, fun u hu => by omega, rfl⟩, fun h => by omega⟩ (by omega) (by rw [e0, dv_0, dv_0]; omega) _ (by omega)
    | succ r ih =>
      intro k hk σ1 f1 f2 f3 t ht
      refine q_iload d_Mo_quotient_11 rfl ?_
      refine q_iload d_Mo_quotient_13 rfl ?_
      refine q_icmp_ge (tgt := 38) (by omega) (by omega) d_Mo_quotient_15 (by decide) (fun c15 => absurd c15 (by omega)) (fun c15 => ?_)
      refine q_aload_n d_Mo_quotient_18 rfl ?_
      refine q_gr (by assumption) pc_Mo 1 (by decide) w_fl_Mo_8 rfl (by rfl) d_Mo_quotient_19 ?_
      refine q_sipush d_Mo_quotient_22 (by decide) ?_
      refine q_iload_n d_Mo_quotient_25 rfl ?_
      refine q_imul d_Mo_quotient_26 ?_
      refine q_iload d_Mo_quotient_27 rfl ?_
      refine q_iadd d_Mo_quotient_29 ?_
      refine q_iconst d_Mo_quotient_30 rfl ?_
      refine q_ias (1024 * a + k) (by assumption) (by omega) (by omega) (by omega) d_Mo_quotient_31 ?_
      refine q_iinc_6 d_Mo_quotient_32 (by decide) rfl ?_
      refine q_goto (tgt := 11) d_Mo_quotient_35 (by decide) ?_
      exact ih (k + 1) (by omega) _ (fun q h1 => by rw [q_up_a _ _ h1]; exact f1 q h1) (fun r u h1 h2 => (mr_ne _ _ (by omega)).trans (f2 r u h1 h2)) (fun u hu => if eu : u = k then by subst eu; rw [mr_up] else by rw [mr_ne _ _ (by omega)]; exact f3 u (by omega)) _ (by omega)
  refine q_aload_n d_Mo_quotient_0 rfl ?_
  refine q_gr (by assumption) pc_Mo 2 (by decide) w_fl_Mo_14 rfl (by rfl) d_Mo_quotient_1 ?_
  refine q_iload_n d_Mo_quotient_4 rfl ?_
  refine q_ial (i) (by assumption) (by omega) (by omega) (by omega) d_Mo_quotient_5 ?_
  refine q_topi (show _ = (n : Int) from h1) ?_
  refine q_ist_5 d_Mo_quotient_6 (by decide) rfl ?_
  refine q_iconst d_Mo_quotient_8 rfl ?_
  refine q_ist_6 d_Mo_quotient_9 (by decide) rfl ?_
  exact loopA n 0 (by omega) σ (fun q _ => rfl) (fun r u _ _ => rfl) (fun u hu => by omega) _ rfl
