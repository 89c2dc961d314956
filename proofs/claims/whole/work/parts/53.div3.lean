/-! DIVIDER: divide -/
theorem td_eq (x y : Int) : x.tdiv y = x.sign * y.sign * ((x.natAbs : Int) / y.natAbs) := by
  have h1 := sg3 x
  have h2 := sg3 y
  rcases h2 with h2 | h2 | h2
  · rcases h1 with h1 | h1 | h1
    · rw [h1.2, h2.2, Int.tdiv_eq_ediv_of_nonneg (by omega), show (x.natAbs : Int) = x by omega, show (y.natAbs : Int) = y by omega]; omega
    · rw [h1.2, h1.1]; simp
    · obtain ⟨X, rfl⟩ : ∃ X, x = -X := ⟨-x, by omega⟩
      rw [h1.2, h2.2, Int.neg_tdiv, Int.tdiv_eq_ediv_of_nonneg (by omega), show ((-X).natAbs : Int) = X by omega, show (y.natAbs : Int) = y by omega]; omega
  · rw [h2.1]; simp
  · obtain ⟨Y, rfl⟩ : ∃ Y, y = -Y := ⟨-y, by omega⟩
    rcases h1 with h1 | h1 | h1
    · rw [h1.2, h2.2, Int.tdiv_neg, Int.tdiv_eq_ediv_of_nonneg (by omega), show (x.natAbs : Int) = x by omega, show ((-Y).natAbs : Int) = Y by omega]; omega
    · rw [h1.2, h1.1]; simp
    · obtain ⟨X, rfl⟩ : ∃ X, x = -X := ⟨-x, by omega⟩
      rw [h1.2, h2.2, Int.tdiv_neg, Int.neg_tdiv, Int.tdiv_eq_ediv_of_nonneg (by omega), show ((-X).natAbs : Int) = X by omega, show ((-Y).natAbs : Int) = Y by omega]; omega
theorem tm_eq (x y : Int) : x.tmod y = x.sign * ((x.natAbs : Int) % y.natAbs) := by
  have h0 := Int.tmod_def x y
  have h1 := sg3 x
  have h2 := sg3 y
  have h3 := Int.mul_ediv_add_emod (x.natAbs : Int) (y.natAbs : Int)
  have h4 := Int.sign_mul_natAbs x
  have h5 := Int.sign_mul_natAbs y
  rw [h0, td_eq]
  rcases h2 with h2 | h2 | h2
  · have : (x.natAbs : Int) % y.natAbs = x.natAbs - y.natAbs * ((x.natAbs : Int) / y.natAbs) := by omega
    rw [this, Int.mul_sub, h4, h2.2, show (y.natAbs : Int) = y by omega]; grind
  · rw [h2.1]; simp [h4]
  · have : (x.natAbs : Int) % y.natAbs = x.natAbs - y.natAbs * ((x.natAbs : Int) / y.natAbs) := by omega
    rw [this, Int.mul_sub, h4, h2.2, show (y.natAbs : Int) = -y by omega]; grind
theorem sr_eq {x A : Int} {s : Nat} (hx : x.sign = 1 ∨ x.sign = -1) (hA : 0 ≤ A) : (x.sign * A).sign * (((x.sign * A).natAbs : Int) / 2 ^ s) = x.sign * (A / 2 ^ s) := by
  have h1 : ((x.sign * A).natAbs : Int) = A := by rcases hx with h | h <;> rw [h] <;> omega
  rw [h1, Int.sign_mul, Int.sign_sign]
  rcases Int.lt_or_le 0 A with g | g
  · rw [Int.sign_eq_one_of_pos g, Int.mul_one]
  · rw [show A = 0 by omega]; simp
set_option maxHeartbeats 4000000 in
set_option maxRecDepth 100000 in
theorem dv_tail (l : Launch) (K : pw_K) {L : q_L} {σ2 : q_S} {a b c wa wb n pl s : Nat} {x y X V : Int} (hL : diL L c) (hLa : nL L a wa) (hLb : nL L b wb) (hda : a < c ∨ c + 6 < a) (hdb : b < c ∨ c + 6 < b) (hn2 : 2 ≤ n) (hpn : pl + n < 160) (hs31 : s < 31) (hsa : σ2 a 2 = x.sign) (hsb : σ2 b 2 = y.sign) (hxs : x.sign = 1 ∨ x.sign = -1) (hys : y.sign = 1 ∨ y.sign = -1) (hql : σ2 (c + 1) 1 = ((pl + 1 : Nat) : Int)) (hml : σ2 (c + 5) 1 = n) (hmd : ∀ k, k < n → 0 ≤ σ2 (c + 6) k ∧ σ2 (c + 6) k < 2147483648) (hmn : 1073741824 ≤ σ2 (c + 6) (n - 1)) (hmv : dv 2147483648 (σ2 (c + 6)) n = V) (hrs : σ2 (c + 3) 2 = x.sign) (hrd : ∀ i, i ≤ pl + n → 0 ≤ σ2 (c + 4) i ∧ σ2 (c + 4) i < 2147483648) (hrt : σ2 (c + 4) (pl + n) = 0) (hX : dv 2147483648 (σ2 (c + 4)) (n + pl + 1) = X) (hVX : V ≤ X) : q_T l K L R_Di b_Di_divide 6 none 3 (fun v σ' => v = none ∧ nV σ' (c + 1) 160 (x.sign * y.sign * (X / V)) ∧ nV σ' (c + 3) 160 (x.sign * (X % V / 2 ^ s)) ∧ ∀ q, (q ≤ c ∨ c + 6 < q) → σ' q = σ2 q) 238 [some (.ref c), some (.ref a), some (.ref b), some (vi (s : Int)), some (vi (pl : Int)), some (vi (pl : Int))] [] σ2 := by
  have hL0 := hL
  obtain ⟨hc0, hn1, hn3, hn5, hn7⟩ := hL0
  obtain ⟨hq0, hq1⟩ := hn1.1
  obtain ⟨hr0, hr1⟩ := hn3.1
  obtain ⟨hm0, hm1⟩ := hn5.1
  have hss : x.sign * y.sign = 1 ∨ x.sign * y.sign = -1 := by rcases hxs with h | h <;> rcases hys with g | g <;> rw [h, g] <;> decide
  have hVt : 2147483648 ^ (n - 1) ≤ V := by
    obtain ⟨k, rfl⟩ : ∃ k, n = k + 1 := ⟨n - 1, by omega⟩
    rw [← hmv]
    exact dv_top (n := k) (by decide) hmd (fun h => by rw [show k + 1 - 1 = k by omega, h] at hmn; omega)
  have hVn : V < 2147483648 ^ n := by rw [← hmv]; exact (dv_range (by decide) hmd).2
  have hV0 : 0 < V := by have := ip_pos (B := 2147483648) (by decide) (n - 1); omega
  have loop : ∀ (k : Nat) (σ1 : q_S), k ≤ pl + 1 → (∀ q, q ≠ c + 2 → q ≠ c + 4 → σ1 q = σ2 q) → (∀ i, i < k → σ1 (c + 4) i = σ2 (c + 4) i) → (∀ i, i ≤ pl + n → 0 ≤ σ1 (c + 4) i ∧ σ1 (c + 4) i < 2147483648) → (∀ i, k ≤ i → i ≤ pl → 0 ≤ σ1 (c + 2) i ∧ σ1 (c + 2) i < 2147483648) → dv 2147483648 (fun i => σ1 (c + 4) (k + i)) n < V → dv 2147483648 (fun i => σ1 (c + 2) (k + i)) (pl + 1 - k) * V + dv 2147483648 (fun i => σ1 (c + 4) (k + i)) n = dv 2147483648 (fun i => σ2 (c + 4) (k + i)) (n + pl + 1 - k) → ∀ t : Int, t = (k : Int) - 1 →  q_T l K L R_Di b_Di_divide 6 none 3 (fun v σ' => v = none ∧ nV σ' (c + 1) 160 (x.sign * y.sign * (X / V)) ∧ nV σ' (c + 3) 160 (x.sign * (X % V / 2 ^ s)) ∧ ∀ q, (q ≤ c ∨ c + 6 < q) → σ' q = σ2 q) 238 [some (.ref c), some (.ref a), some (.ref b), some (vi (s : Int)), some (vi (pl : Int)), some (vi t)] [] σ1 := by
    intro k
    induction k with
    | zero =>
      intro σ1 f0 f1 f2 f3 f4 f5 f6 t ht
      refine q_iload d_Di_divide_238 rfl ?_
      refine q_if_lt (tgt := 265) (by omega) d_Di_divide_240 (by decide) (fun c240 => ?_) (fun c240 => absurd c240 (by omega))
      refine q_aload_n d_Di_divide_265 rfl ?_
      refine q_gr hc0 pc_Di 0 (by decide) w_fl_Di_12 rfl (by rfl) d_Di_divide_266 ?_
      refine q_aload_n d_Di_divide_269 rfl ?_
      refine q_gi hLa.1.1 pc_Nu 2 (by decide) w_fl_Di_50 rfl (by rfl) d_Di_divide_270 ?_
      refine q_topi (show _ = x.sign by rw [f1 _ (by omega) (by omega)]; exact hsa) ?_
      refine q_aload_n d_Di_divide_273 rfl ?_
      refine q_gi hLb.1.1 pc_Nu 2 (by decide) w_fl_Di_50 rfl (by rfl) d_Di_divide_274 ?_
      refine q_topi (show _ = y.sign by rw [f1 _ (by omega) (by omega)]; exact hsb) ?_
      refine q_imul d_Di_divide_277 ?_
      refine q_pi hq0 pc_Nu 2 (by decide) w_fl_Di_50 rfl rfl rfl rfl (by rfl) d_Di_divide_278 ?_
      refine q_aload_n d_Di_divide_281 rfl ?_
      refine q_gr hc0 pc_Di 0 (by decide) w_fl_Di_12 rfl (by rfl) d_Di_divide_282 ?_
      rw [Nat.sub_zero] at f6
      have f6' : dv 2147483648 (σ1 (c + 2)) (pl + 1) * V + dv 2147483648 (σ1 (c + 4)) n = X := by
        rw [dv_congr (g := fun i => σ1 (c + 2) (0 + i)) (h := σ1 (c + 2)) (fun i _ => by rw [Nat.zero_add]), dv_congr (g := fun i => σ1 (c + 4) (0 + i)) (h := σ1 (c + 4)) (fun i _ => by rw [Nat.zero_add]), dv_congr (g := fun i => σ2 (c + 4) (0 + i)) (h := σ2 (c + 4)) (fun i _ => by rw [Nat.zero_add])] at f6
        rw [f6, Nat.sub_zero]
        exact hX
      have f5' : dv 2147483648 (σ1 (c + 4)) n < V := by
        rw [dv_congr (g := fun i => σ1 (c + 4) (0 + i)) (h := σ1 (c + 4)) (fun i _ => by rw [Nat.zero_add])] at f5
        exact f5
      have hrn := (dv_range (B := 2147483648) (by decide) (fun i hi => f3 i (by omega) : ∀ i, i < n → 0 ≤ σ1 (c + 4) i ∧ σ1 (c + 4) i < 2147483648)).1
      obtain ⟨e1, e2⟩ := dm_uniq f6' hrn f5'
      have hQp : 0 < X / V := by
        rcases Int.lt_or_le 0 (X / V) with g | g
        · exact g
        · exfalso
          have := Int.mul_le_mul_of_nonneg_right g (show 0 ≤ V by omega)
          rw [← e1] at this
          omega
      have hU : nU (q_up σ1 (c + 1) 2 (x.sign * y.sign)) (c + 1) 160 (pl + 1) (X / V) (x.sign * y.sign) := ⟨by rw [q_up_ne _ _ (by omega), f1 _ (by omega) (by omega)]; exact hql, q_up_self _ _ _ _, by omega, fun i hi => by rw [q_up_a _ _ (by omega)]; exact f4 i (by omega) (by omega), by rw [q_up_a _ _ (by omega)]; exact e1⟩
      refine q_callV (As := []) (c_Nu_trim l K hn1 hU) w_cd_Nu_trim w_ini_Nu w_ml_Di_68 w_im_Nu_trim w_se_Nu_trim hq0 rfl hd_Nu_trim rfl (Nat.le_of_ble_eq_true rfl) d_Di_divide_285 (by decide) (by decide) (fun v σ3 hp => ?_)
      obtain ⟨rfl, ⟨n3, k1, k2⟩, k3⟩ := hp
      have k4 : nV σ3 (c + 1) 160 (x.sign * y.sign * (X / V)) := k1.val k2 (by rcases hss with h | h <;> rw [h] <;> omega) (fun _ => by rw [Int.sign_mul, Int.sign_eq_one_of_pos hQp, Int.mul_one]; rcases hss with h | h <;> rw [h] <;> rfl)
      refine q_aload_n d_Di_divide_288 rfl ?_
      refine q_gr hc0 pc_Di 1 (by decide) w_fl_Di_18 rfl (by rfl) d_Di_divide_289 ?_
      refine q_aload_n d_Di_divide_292 rfl ?_
      refine q_gr hc0 pc_Di 2 (by decide) w_fl_Di_21 rfl (by rfl) d_Di_divide_293 ?_
      refine q_gi hm0 pc_Nu 1 (by decide) w_fl_Di_30 rfl (by rfl) d_Di_divide_296 ?_
      refine q_topi (show _ = (n : Int) by rw [k3 _ (by omega), q_up_a _ _ (by omega), f1 _ (by omega) (by omega)]; exact hml) ?_
      refine q_pi hr0 pc_Nu 1 (by decide) w_fl_Di_30 rfl rfl rfl rfl (by rfl) d_Di_divide_299 ?_
      refine q_aload_n d_Di_divide_302 rfl ?_
      refine q_gr hc0 pc_Di 1 (by decide) w_fl_Di_18 rfl (by rfl) d_Di_divide_303 ?_
      have hU2 : nU (q_up σ3 (c + 3) 1 (n : Int)) (c + 3) 160 n (X % V) x.sign := ⟨q_up_self _ _ _ _, by rw [q_up_ne _ _ (by omega), k3 _ (by omega), q_up_a _ _ (by omega), f1 _ (by omega) (by omega)]; exact hrs, by omega, fun i hi => by rw [q_up_a _ _ (by omega), k3 _ (by omega), q_up_a _ _ (by omega)]; exact f3 i (by omega), by rw [q_up_a _ _ (by omega), k3 _ (by omega), q_up_a _ _ (by omega)]; exact e2⟩
      have hm0' : 0 ≤ X % V := by rw [← e2]; exact hrn
      refine q_callV (As := []) (c_Nu_trim l K hn3 hU2) w_cd_Nu_trim w_ini_Nu w_ml_Di_68 w_im_Nu_trim w_se_Nu_trim hr0 rfl hd_Nu_trim rfl (Nat.le_of_ble_eq_true rfl) d_Di_divide_306 (by decide) (by decide) (fun v σ4 hp => ?_)
      obtain ⟨rfl, ⟨n4, k5, k6⟩, k7⟩ := hp
      have k8 : nV σ4 (c + 3) 160 (x.sign * (X % V)) := k5.val k6 (by rcases hxs with h | h <;> rw [h] <;> omega) (fun h => by rw [Int.sign_mul, Int.sign_eq_one_of_pos (show 0 < X % V by rcases Int.lt_or_le 0 (X % V) with g | g; exact g; exact absurd (by rw [show X % V = 0 by omega]; simp) h), Int.mul_one, Int.sign_sign])
      refine q_aload_n d_Di_divide_309 rfl ?_
      refine q_gr hc0 pc_Di 1 (by decide) w_fl_Di_18 rfl (by rfl) d_Di_divide_310 ?_
      refine q_iload_n d_Di_divide_313 rfl ?_
      refine q_callV (As := [vi (s : Int)]) (c_Nu_shiftDown l K (p := s) hn3 k8 (by omega)) w_cd_Nu_shiftDown w_ini_Nu w_ml_Di_71 w_im_Nu_shiftDown w_se_Nu_shiftDown hr0 rfl hd_Nu_shiftDown rfl (Nat.le_of_ble_eq_true rfl) d_Di_divide_314 (by decide) (by decide) (fun v σ5 hp => ?_)
      obtain ⟨rfl, k9, k10⟩ := hp
      refine q_pop d_Di_divide_317 rfl ?_
      exact q_vret rfl (⟨rfl, k4.mv (by rw [k10 _ (by omega) (by omega), k7 _ (by omega), q_up_a _ _ (by omega)]) (by rw [k10 _ (by omega) (by omega), k7 _ (by omega), q_up_a _ _ (by omega)]), by rw [sr_eq hxs hm0'] at k9; exact k9, fun q hq => by rw [k10 q (by omega) (by omega), k7 q (by omega), q_up_a _ _ (by omega), k3 q (by omega), q_up_a _ _ (by omega)]; exact f1 q (by omega) (by omega)⟩) d_Di_divide_318
    | succ k ih =>
      intro σ1 f0 f1 f2 f3 f4 f5 f6 t ht
      refine q_iload d_Di_divide_238 rfl ?_
      refine q_if_lt (tgt := 265) (by omega) d_Di_divide_240 (by decide) (fun c240 => absurd c240 (by omega)) (fun c240 => ?_)
      have hlow := dv_low 2147483648 (σ1 (c + 4)) (show k < k + (n + 1) by omega)
      rw [show k + (n + 1) - k = n + 1 by omega, show k + (n + 1) - (k + 1) = n by omega] at hlow
      have hwin : dv 2147483648 (wn σ1 c k) (n + 1) = σ2 (c + 4) k + 2147483648 * dv 2147483648 (fun i => σ1 (c + 4) (k + 1 + i)) n := by
        rw [← f2 k (by omega)]; exact hlow
      have hW : dv 2147483648 (wn σ1 c k) (n + 1) < dv 2147483648 (σ1 (c + 6)) n * 2147483648 := by
        rw [hwin, f1 (c + 6) (by omega) (by omega), hmv]
        have := f3 k (by omega)
        rw [f2 k (by omega)] at this
        omega
      refine q_aload_n d_Di_divide_243 rfl ?_
      refine q_gr hc0 pc_Di 0 (by decide) w_fl_Di_12 rfl (by rfl) d_Di_divide_244 ?_
      refine q_gr hq0 pc_Nu 0 (by decide) w_fl_Di_42 rfl (by rfl) d_Di_divide_247 ?_
      refine q_iload d_Di_divide_250 rfl ?_
      refine q_aload_n d_Di_divide_252 rfl ?_
      refine q_iload d_Di_divide_253 rfl ?_
      refine q_callV (As := [vi t]) (by rw [show t = ((k : Nat) : Int) by omega]; exact c_Di_takeDigit l K hL (by rw [f1 _ (by omega) (by omega)]; exact hml) hn2 (by omega) (by rw [f1 _ (by omega) (by omega)]; exact hmd) (fun i hi => f3 (k + i) (by omega)) (by rw [f1 _ (by omega) (by omega)]; exact hmn) hW) w_cd_Di_takeDigit w_ini_Di w_ml_Di_65 w_im_Di_takeDigit w_se_Di_takeDigit hc0 rfl hd_Di_takeDigit rfl (Nat.le_of_ble_eq_true rfl) d_Di_divide_255 (by decide) (by decide) (fun v σ3 hp => ?_)
      obtain ⟨rfl, k1, k2, k3, k4⟩ := hp
      rw [f1 (c + 6) (by omega) (by omega), hmv, hwin] at k1 ⊢
      refine q_ias (k) (by assumption) (by omega) (by omega) (by omega) d_Di_divide_258 ?_
      refine q_iinc_5 d_Di_divide_259 (by decide) rfl ?_
      refine q_goto (tgt := 238) d_Di_divide_262 (by decide) ?_
      obtain ⟨W, hWe⟩ : ∃ W, W = σ2 (c + 4) k + 2147483648 * dv 2147483648 (fun i => σ1 (c + 4) (k + 1 + i)) n := ⟨_, rfl⟩
      rw [hwin, f1 (c + 6) (by omega) (by omega), hmv] at hW
      rw [← hWe] at k1 hW ⊢
      have r0 := (f3 k (by omega)).1
      rw [f2 k (by omega)] at r0
      have r1 := (dv_range (B := 2147483648) (by decide) (g := fun i => σ1 (c + 4) (k + 1 + i)) (n := n) (fun i hi => f3 (k + 1 + i) (by omega))).1
      have r2 : 0 ≤ W := by omega
      have r3 := Int.emod_nonneg W (show V ≠ 0 by omega)
      have r4 := Int.emod_lt_of_pos W hV0
      have r5 : 0 ≤ W / V := Int.ediv_nonneg r2 (by omega)
      have r6 : W / V < 2147483648 := Int.ediv_lt_of_lt_mul hV0 (by rw [Int.mul_comm]; exact hW)
      have r7 := Int.mul_ediv_add_emod W V
      have r8 : dv 2147483648 (fun i => σ3 (c + 4) (k + i)) n = W % V := by
        have g1 : dv 2147483648 (wn σ3 c k) (n + 1) = dv 2147483648 (fun i => σ3 (c + 4) (k + i)) n + wn σ3 c k n * 2147483648 ^ n := rfl
        have g2 := k2 n (by omega)
        have g3 := (dv_range (B := 2147483648) (by decide) (g := fun i => σ3 (c + 4) (k + i)) (n := n) (fun i hi => k2 i (by omega))).1
        rcases Int.lt_or_le 0 (wn σ3 c k n) with g | g
        · have g4 := Int.mul_le_mul_of_nonneg_right (show 1 ≤ wn σ3 c k n by omega) (Int.le_of_lt (ip_pos (B := 2147483648) (by decide) n))
          omega
        · rw [show wn σ3 c k n = 0 by omega] at g1
          omega
      refine ih _ (by omega) (fun q h6 h7 => by rw [q_up_a _ _ h6, k4 q h7]; exact f1 q h6 h7) (fun i hi => by rw [q_up_a _ _ (by omega), k3 i (by omega)]; exact f2 i (by omega)) (fun i hi => ?_) (fun i h6 h7 => ?_) (by rw [q_up_a _ _ (by omega), r8]; exact r4) ?_ _ (by omega)
      · rw [q_up_a _ _ (by omega)]
        by_cases g : i < k ∨ k + n < i
        · rw [k3 i g]; exact f3 i hi
        · have := k2 (i - k) (by omega)
          unfold wn at this
          rw [show k + (i - k) = i by omega] at this
          exact this
      · by_cases g : i = k
        · subst g; rw [q_up_self]; exact ⟨r5, r6⟩
        · rw [q_up_k _ _ g, k4 _ (by omega)]; exact f4 i (by omega) h7
      · have g1 := dv_low 2147483648 (q_up σ3 (c + 2) k (W / V) (c + 2)) (show k < pl + 1 by omega)
        rw [q_up_self, dv_congr (g := fun i => q_up σ3 (c + 2) k (W / V) (c + 2) (k + 1 + i)) (h := fun i => σ1 (c + 2) (k + 1 + i)) (fun i hi => by rw [q_up_k _ _ (by omega), k4 _ (by omega)])] at g1
        have g2 := dv_low 2147483648 (σ2 (c + 4)) (show k < n + pl + 1 by omega)
        have g3 : dv 2147483648 (fun i => q_up σ3 (c + 2) k (W / V) (c + 4) (k + i)) n = W % V := by rw [q_up_a _ _ (by omega)]; exact r8
        rw [g1, g2, g3, show n + pl + 1 - (k + 1) = n + pl + 1 - (k + 1) from rfl, ← f6]
        grind
  refine loop (pl + 1) σ2 (Nat.le_refl _) (fun q _ _ => rfl) (fun i _ => rfl) hrd (fun i h6 h7 => by omega) ?_ ?_ _ (by omega)
  · obtain ⟨k, rfl⟩ : ∃ k, n = k + 1 := ⟨n - 1, by omega⟩
    rw [dv_s, show pl + 1 + k = pl + (k + 1) by omega, hrt]
    have := (dv_range (B := 2147483648) (by decide) (g := fun i => σ2 (c + 4) (pl + 1 + i)) (n := k) (fun i hi => hrd _ (by omega))).2
    rw [show k + 1 - 1 = k by omega] at hVt
    omega
  · rw [Nat.sub_self, show n + pl + 1 - (pl + 1) = n by omega]
    simp [dv]
