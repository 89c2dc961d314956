/-! THE REFERENCE: changes -/
/-- the coefficients in a cell's own measure, s + 1 of P's taken from the top -/
def cT (P : Nat → Int) (n : Nat) (Lo : Int) (W f : Nat) : Nat → Nat → Int
  | 0, i => if i = 0 then P n else 0
  | s + 1, i => if i = 0 then cT P n Lo W f s 0 * Lo + P (n - (s + 1)) * 2 ^ (f * (s + 1)) else cT P n Lo W f s i * Lo + cT P n Lo W f s (i - 1) * 2 ^ W
theorem cT_z {P : Nat → Int} {n : Nat} {Lo : Int} {W f : Nat} : ∀ s i, s < i → cT P n Lo W f s i = 0
  | 0, i, h => by rw [cT, if_neg (by omega)]
  | s + 1, i, h => by rw [cT, if_neg (by omega), cT_z s i (by omega), cT_z s (i - 1) (by omega)]; simp
/-- sums of sums, i times -/
def pit (a : Nat → Int) : Nat → Nat → Int
  | 0 => a
  | i + 1 => psm (pit a i)
theorem pit_be {T : Nat → Int} {n : Nat} : ∀ i, i ≤ n → ∀ k, k ≤ n - i → be n T k = be (n - i) (pit T i) k
  | 0, _, k, _ => rfl
  | i + 1, hi, k, hk => by
    rw [pit_be i (by omega) k (by omega)]
    obtain ⟨N, hN⟩ : ∃ N, n - i = N + 1 := ⟨n - i - 1, by omega⟩
    rw [hN, show n - (i + 1) = N by omega]
    show (if k = N + 1 then psm (pit T i) (N + 1) else be N (psm (pit T i)) k) = be N (psm (pit T i)) k
    rw [if_neg (by omega)]
theorem pit_top {T : Nat → Int} {n i : Nat} (hi : i < n) : be n T (n - i) = psm (pit T i) (n - i) := by
  rw [pit_be i (by omega) (n - i) (Nat.le_refl _)]
  obtain ⟨N, hN⟩ : ∃ N, n - i = N + 1 := ⟨n - i - 1, by omega⟩
  rw [hN]
  show (if N + 1 = N + 1 then psm (pit T i) (N + 1) else be N (psm (pit T i)) (N + 1)) = _
  rw [if_pos rfl]
theorem pit_bd {T : Nat → Int} {M n : Nat} (hT : ∀ k, k ≤ n → (T k).natAbs ≤ M) : ∀ i k, k ≤ n → (pit T i k).natAbs ≤ (n + 1) ^ i * M
  | 0, k, hk => by rw [Nat.pow_zero, Nat.one_mul]; exact hT k hk
  | i + 1, k, hk => by
    have key : ∀ j, j ≤ k → (psm (pit T i) j).natAbs ≤ (j + 1) * ((n + 1) ^ i * M) := by
      intro j
      induction j with
      | zero => intro _; have := pit_bd hT i 0 (by omega); show (pit T i 0).natAbs ≤ _; omega
      | succ j ih =>
        intro hj
        have h3 := ih (by omega)
        have h4 := pit_bd hT i (j + 1) (by omega)
        show (psm (pit T i) j + pit T i (j + 1)).natAbs ≤ _
        have h5 := Int.natAbs_add_le (psm (pit T i) j) (pit T i (j + 1))
        have : (j + 1 + 1) * ((n + 1) ^ i * M) = (j + 1) * ((n + 1) ^ i * M) + (n + 1) ^ i * M := by rw [Nat.add_mul (j + 1) 1, Nat.one_mul]
        omega
    refine Nat.le_trans (key k (Nat.le_refl _)) ?_
    rw [Nat.pow_succ, Nat.mul_comm _ (n + 1), Nat.mul_assoc]
    exact Nat.mul_le_mul_right _ (by omega)
theorem psm_s (a : Nat → Int) (k : Nat) (hk : 1 ≤ k) : psm a k = a k + 1 * psm a (k - 1) := by
  obtain ⟨j, rfl⟩ : ∃ j, k = j + 1 := ⟨k - 1, by omega⟩
  show psm a j + a (j + 1) = _
  rw [Nat.add_sub_cancel]; omega
theorem lim16 {z : Int} {M u : Nat} (h : (M : Int) < 65536 ^ u) (hz : z.natAbs ≤ 9 ^ 9 * M) : (z.natAbs : Int) < 65536 ^ (u + 2) := by
  have h1 : (65536 : Int) ^ (u + 2) = 65536 ^ u * 4294967296 := by rw [Int.pow_add]; rfl
  have h2 : (z.natAbs : Int) ≤ ((9 ^ 9 * M : Nat) : Int) := by exact_mod_cast hz
  rw [Int.natCast_mul] at h2
  have h3 : (((9 ^ 9 : Nat) : Int)) = 387420489 := by decide
  rw [h3] at h2
  generalize (65536 : Int) ^ (u + 2) = A at *
  generalize (65536 : Int) ^ u = B at *
  omega
theorem l16 {n : Int} {u v : Nat} (h : n < 65536 ^ u) (huv : u ≤ v) : n < 65536 ^ v := by
  have := ip_le (B := 65536) (by decide) huv
  omega
theorem vr_c1 {s : Nat → Int} {t : Nat} (h : s t = 0) : vr s (t + 1) = ((vr s t).1, if s t = 0 then (vr s t).2 else s t) := by
  rw [vr, if_pos h, if_pos h]
theorem vr_c2 {s : Nat → Int} {t : Nat} (h : ¬ s t = 0) (h2 : (vr s t).2 = 0) : vr s (t + 1) = ((vr s t).1, if s t = 0 then (vr s t).2 else s t) := by
  rw [vr, if_neg h, if_neg h, if_neg (by omega), Int.add_zero]
theorem vr_c3 {s : Nat → Int} {t : Nat} (h : ¬ s t = 0) (h2 : s t = (vr s t).2) : vr s (t + 1) = ((vr s t).1, if s t = 0 then (vr s t).2 else s t) := by
  rw [vr, if_neg h, if_neg h, if_neg (by omega), Int.add_zero]
theorem vr_c4 {s : Nat → Int} {t : Nat} (h : ¬ s t = 0) (h2 : (vr s t).2 = - s t) : vr s (t + 1) = ((vr s t).1 + 1, if s t = 0 then (vr s t).2 else s t) := by
  rw [vr, if_neg h, if_neg h, if_pos h2]
theorem lift_lt {x : Int} {u p : Nat} (h : (x.natAbs : Int) < 65536 ^ u) : ((x * 2 ^ p).natAbs : Int) < 65536 ^ (u + p / 16 + 1) := by
  have h1 := p2_16 p
  rw [Int.one_mul] at h1
  have := mul_lt_pow h h1
  rw [← Nat.add_assoc] at this
  exact this
set_option maxHeartbeats 4000000 in
set_option maxRecDepth 100000 in
theorem c_Mo_changes (l : Launch) (K : pw_K) {L : q_L} {σ : q_S} {m p c j n cu u v w z : Nat} {C : Int} {P : Nat → Int} (hL : mL L m) (hp : p < 10) (hc : c < 160) (hc1 : c = 109 ∨ 125 ≤ c) (hn : n ≤ 8) (hd : σ (m + 4) p = (n : Int)) (hP : ∀ k, k ≤ n → rV σ m (9 * p + k) (P k)) (hC : rV σ m c C) (hCb : (C.natAbs : Int) < 65536 ^ cu) (hju : j / 16 + 1 ≤ cu) (hcu : cu + 5 ≤ 1024) (hPb : ∀ k, k ≤ n → ((P k).natAbs : Int) < 65536 ^ w) (hLb : ((lowv C j).natAbs : Int) < 65536 ^ v) (hT : ∀ s, s ≤ n → ∀ i, ((cT P n (lowv C j) (44 - j) (j - 44) s i).natAbs : Int) < 65536 ^ u) (hz1 : u + v ≤ z) (hz2 : u + 4 ≤ z) (hz3 : w + (j - 44) * n / 16 + 1 ≤ z) (hz : z + 1 ≤ 1024) : q_C l K L y_Mo_changes b_Mo_changes 12 (some .int) 4 [.ref m, vi p, vi c, vi j] σ (fun v σ' => v = some (vi (vr (fun k => (be n (cT P n (lowv C j) (44 - j) (j - 44) n) k).sign) (n + 1)).1) ∧ rO σ σ' m ∧ (∀ r, (r < 105 ∨ 108 < r) → (r < 116 ∨ 125 ≤ r) → rE σ σ' m r)) := by
  obtain ⟨hM0, hM1, hM2, hM3, hM4, hM5, hM6, hM7, hM8, hM9⟩ := hL
  have hpit : ∀ i k, i ≤ n → k ≤ n → (((pit (cT P n (lowv C j) (44 - j) (j - 44) n) i k).natAbs : Int)) < 65536 ^ (u + 2) := fun i k hi hk => by
    have hM : ∀ y, y ≤ n → ((cT P n (lowv C j) (44 - j) (j - 44) n) y).natAbs ≤ (65536 : Int).toNat ^ u - 1 := fun y hy => by
      have h1 := hT n (Nat.le_refl _) y
      have h2 : ((65536 : Int).toNat ^ u : Nat) = (65536 : Nat) ^ u := rfl
      have h3 : ((65536 ^ u : Nat) : Int) = (65536 : Int) ^ u := by rw [Int.natCast_pow]; rfl
      rw [h2]; omega
    refine lim16 (M := (65536 : Int).toNat ^ u - 1) ?_ (Nat.le_trans (pit_bd hM i k hk) (Nat.mul_le_mul_right _ (Nat.le_trans (Nat.pow_le_pow_left (show n + 1 ≤ 9 by omega) i) (Nat.pow_le_pow_right (by decide) (by omega)))))
    have h2 : ((65536 : Int).toNat ^ u : Nat) = (65536 : Nat) ^ u := rfl
    have h3 : ((65536 ^ u : Nat) : Int) = (65536 : Int) ^ u := by rw [Int.natCast_pow]; rfl
    have h4 : 0 < (65536 : Nat) ^ u := Nat.pow_pos (by decide)
    rw [h2]; omega
  refine q_start [some (.ref m), some (vi p), some (vi c), some (vi j), none, none, none, none, none, none, none, none] (by decide) (Nat.le_of_ble_eq_true rfl) (fun q h => h) ?_
  have loopE : ∀ (r t : Nat), t + r = n + 1 → ∀ (σ1 : q_S), (∀ y, y ≤ n → rV σ1 m (116 + y) (be n (cT P n (lowv C j) (44 - j) (j - 44) n) y)) → rO σ σ1 m → (∀ r, (r < 105 ∨ 108 < r) → (r < 116 ∨ 125 ≤ r) → rE σ σ1 m r) → ∀ x : Int, x = t → q_T l K L R_Mo b_Mo_changes 12 (some .int) 4 (fun v σ' => v = some (vi (vr (fun k => (be n (cT P n (lowv C j) (44 - j) (j - 44) n) k).sign) (n + 1)).1) ∧ rO σ σ' m ∧ (∀ r, (r < 105 ∨ 108 < r) → (r < 116 ∨ 125 ≤ r) → rE σ σ' m r)) 253 [some (.ref m), some (vi p), some (vi c), some (vi j), some (vi n), some (vi ((j - 44 : Nat) : Int)), some (vi ((44 - j : Nat) : Int)), none, some (vi (vr (fun k => (be n (cT P n (lowv C j) (44 - j) (j - 44) n) k).sign) t).1), some (vi (vr (fun k => (be n (cT P n (lowv C j) (44 - j) (j - 44) n) k).sign) t).2), some (vi x), none] [] σ1 := by
    intro r
    induction r with
    | zero =>
      intro t ht σ1 f1 f2 f3 x hx
      refine q_iload d_Mo_changes_253 rfl ?_
      refine q_iload d_Mo_changes_255 rfl ?_
      refine q_icmp_gt (tgt := 312) (by omega) (by omega) d_Mo_changes_257 (by decide) (fun c257 => ?_) (fun c257 => absurd c257 (by omega))
      refine q_iload d_Mo_changes_312 rfl ?_
      exact q_iret rfl (⟨by rw [show n + 1 = t by omega], f2, f3⟩) d_Mo_changes_314
    | succ r ih =>
      intro t ht σ1 f1 f2 f3 x hx
      refine q_iload d_Mo_changes_253 rfl ?_
      refine q_iload d_Mo_changes_255 rfl ?_
      refine q_icmp_gt (tgt := 312) (by omega) (by omega) d_Mo_changes_257 (by decide) (fun c257 => absurd c257 (by omega)) (fun c257 => ?_)
      have r1 := vr_r (s := (fun k => (be n (cT P n (lowv C j) (44 - j) (j - 44) n) k).sign)) (fun k => sgn_b _) t
      have r2 := sgn_b (be n (cT P n (lowv C j) (44 - j) (j - 44) n) t)
      have nxt : ∀ u1 u2 : Int, vr (fun k => (be n (cT P n (lowv C j) (44 - j) (j - 44) n) k).sign) (t + 1) = (u1, u2) → ∀ x' : Int, x' = (t : Int) + 1 → q_T l K L R_Mo b_Mo_changes 12 (some .int) 4 (fun v σ' => v = some (vi (vr (fun k => (be n (cT P n (lowv C j) (44 - j) (j - 44) n) k).sign) (n + 1)).1) ∧ rO σ σ' m ∧ (∀ r, (r < 105 ∨ 108 < r) → (r < 116 ∨ 125 ≤ r) → rE σ σ' m r)) 253 [some (.ref m), some (vi p), some (vi c), some (vi j), some (vi n), some (vi ((j - 44 : Nat) : Int)), some (vi ((44 - j : Nat) : Int)), none, some (vi u1), some (vi u2), some (vi x'), none] [] σ1 := by
        intro u1 u2 h9 x' hx'
        have := ih (t + 1) (by omega) σ1 f1 f2 f3 x' (by omega)
        rw [h9] at this
        exact this
      have h292 : ∀ u1 : Int, vr (fun k => (be n (cT P n (lowv C j) (44 - j) (j - 44) n) k).sign) (t + 1) = (u1, if (be n (cT P n (lowv C j) (44 - j) (j - 44) n) t).sign = 0 then (vr (fun k => (be n (cT P n (lowv C j) (44 - j) (j - 44) n) k).sign) t).2 else (be n (cT P n (lowv C j) (44 - j) (j - 44) n) t).sign) → q_T l K L R_Mo b_Mo_changes 12 (some .int) 4 (fun v σ' => v = some (vi (vr (fun k => (be n (cT P n (lowv C j) (44 - j) (j - 44) n) k).sign) (n + 1)).1) ∧ rO σ σ' m ∧ (∀ r, (r < 105 ∨ 108 < r) → (r < 116 ∨ 125 ≤ r) → rE σ σ' m r)) 292 [some (.ref m), some (vi p), some (vi c), some (vi j), some (vi n), some (vi ((j - 44 : Nat) : Int)), some (vi ((44 - j : Nat) : Int)), none, some (vi u1), some (vi (vr (fun k => (be n (cT P n (lowv C j) (44 - j) (j - 44) n) k).sign) t).2), some (vi x), some (vi ((be n (cT P n (lowv C j) (44 - j) (j - 44) n) t).sign))] [] σ1 := by
        intro u1 h9
        refine q_iload d_Mo_changes_292 rfl ?_
        refine q_jn1 (V := if (be n (cT P n (lowv C j) (44 - j) (j - 44) n) t).sign = 0 then (vr (fun k => (be n (cT P n (lowv C j) (44 - j) (j - 44) n) k).sign) t).2 else (be n (cT P n (lowv C j) (44 - j) (j - 44) n) t).sign) 304 (fun jn => ?_) ?_
        · refine q_if_eq (tgt := 302) (by omega) d_Mo_changes_294 (by decide) (fun cz => ?_) (fun cz => ?_)
          · refine q_iload d_Mo_changes_302 rfl ?_
            exact jn _ ((if_pos cz).symm)
          · refine q_iload d_Mo_changes_297 rfl ?_
            refine q_goto (tgt := 304) d_Mo_changes_299 (by decide) ?_
            exact jn _ ((if_neg cz).symm)
        · refine q_ist_9 d_Mo_changes_304 (by decide) rfl ?_
          refine q_iinc_10 d_Mo_changes_306 (by decide) rfl ?_
          refine q_goto (tgt := 253) d_Mo_changes_309 (by decide) ?_
          refine q_drop_11 ?_
          exact nxt _ _ h9 _ (by omega)
      refine q_aload_n d_Mo_changes_260 rfl ?_
      refine q_gr (by assumption) pc_Mo 3 (by decide) w_fl_Mo_17 rfl (by rfl) d_Mo_changes_261 ?_
      refine q_bipush d_Mo_changes_264 (by decide) ?_
      refine q_iload d_Mo_changes_266 rfl ?_
      refine q_iadd d_Mo_changes_268 ?_
      refine q_topi (show _ = ((116 + t : Nat) : Int) by omega) ?_
      refine q_ial (116 + t) (by assumption) (by omega) (by omega) (by omega) d_Mo_changes_269 ?_
      refine q_topi (f1 t (by omega)).sgn ?_
      refine q_ist_11 d_Mo_changes_270 (by decide) rfl ?_
      refine q_iload d_Mo_changes_272 rfl ?_
      refine q_if_eq (tgt := 292) (by omega) d_Mo_changes_274 (by decide) (fun c1 => ?_) (fun c1 => ?_)
      · exact h292 _ (vr_c1 c1)
      · refine q_iload d_Mo_changes_277 rfl ?_
        refine q_if_eq (tgt := 292) (by omega) d_Mo_changes_279 (by decide) (fun c2 => ?_) (fun c2 => ?_)
        · exact h292 _ (vr_c2 c1 c2)
        · refine q_iload d_Mo_changes_282 rfl ?_
          refine q_iload d_Mo_changes_284 rfl ?_
          refine q_icmp_eq (tgt := 292) (by omega) (by omega) d_Mo_changes_286 (by decide) (fun c3 => ?_) (fun c3 => ?_)
          · exact h292 _ (vr_c3 c1 c3)
          · refine q_iinc_8 d_Mo_changes_289 (by decide) rfl ?_
            exact h292 _ (vr_c4 c1 (by omega))
  have loopC : ∀ (r t : Nat), t + r = n → ∀ (σ1 : q_S), (∀ y, y ≤ n - t → rV σ1 m (116 + y) (pit (cT P n (lowv C j) (44 - j) (j - 44) n) t y)) → (∀ y, n - t < y → y ≤ n → rV σ1 m (116 + y) (be n (cT P n (lowv C j) (44 - j) (j - 44) n) y)) → rO σ σ1 m → (∀ r, (r < 105 ∨ 108 < r) → (r < 116 ∨ 125 ≤ r) → rE σ σ1 m r) → ∀ s : Int, s = t → q_T l K L R_Mo b_Mo_changes 12 (some .int) 4 (fun v σ' => v = some (vi (vr (fun k => (be n (cT P n (lowv C j) (44 - j) (j - 44) n) k).sign) (n + 1)).1) ∧ rO σ σ' m ∧ (∀ r, (r < 105 ∨ 108 < r) → (r < 116 ∨ 125 ≤ r) → rE σ σ' m r)) 192 [some (.ref m), some (vi p), some (vi c), some (vi j), some (vi n), some (vi ((j - 44 : Nat) : Int)), some (vi ((44 - j : Nat) : Int)), none, some (vi s), none, none, none] [] σ1 := by
    intro r
    induction r with
    | zero =>
      intro t ht σ1 f1 f2 f3 f4 s hs
      refine q_iload d_Mo_changes_192 rfl ?_
      refine q_iload d_Mo_changes_194 rfl ?_
      refine q_icmp_ge (tgt := 244) (by omega) (by omega) d_Mo_changes_196 (by decide) (fun c196 => ?_) (fun c196 => absurd c196 (by omega))
      refine q_iconst d_Mo_changes_244 rfl ?_
      refine q_ist_8 d_Mo_changes_245 (by decide) rfl ?_
      refine q_iconst d_Mo_changes_247 rfl ?_
      refine q_ist_9 d_Mo_changes_248 (by decide) rfl ?_
      refine q_iconst d_Mo_changes_250 rfl ?_
      refine q_ist_10 d_Mo_changes_251 (by decide) rfl ?_
      have hE : ∀ y, y ≤ n → rV σ1 m (116 + y) (be n (cT P n (lowv C j) (44 - j) (j - 44) n) y) := fun y hy => by
        by_cases h0 : y = 0
        · subst h0
          have := f1 0 (by omega)
          rw [pit_be t (by omega) 0 (by omega), show n - t = 0 by omega]
          exact this
        · exact f2 y (by omega) hy
      exact loopE (n + 1) 0 (by omega) σ1 hE f3 f4 _ rfl
    | succ r ih =>
      intro t ht σ1 f1 f2 f3 f4 s hs
      refine q_iload d_Mo_changes_192 rfl ?_
      refine q_iload d_Mo_changes_194 rfl ?_
      refine q_icmp_ge (tgt := 244) (by omega) (by omega) d_Mo_changes_196 (by decide) (fun c196 => absurd c196 (by omega)) (fun c196 => ?_)
      have pass : ∀ (r b : Nat), b + r = n - t + 1 → 1 ≤ b → ∀ (σ3 : q_S), (∀ y, y < b → rV σ3 m (116 + y) (psm (pit (cT P n (lowv C j) (44 - j) (j - 44) n) t) y)) → (∀ y, b ≤ y → y ≤ n - t → rV σ3 m (116 + y) (pit (cT P n (lowv C j) (44 - j) (j - 44) n) t y)) → (∀ y, n - t < y → y ≤ n → rV σ3 m (116 + y) (be n (cT P n (lowv C j) (44 - j) (j - 44) n) y)) → rO σ σ3 m → (∀ r, (r < 105 ∨ 108 < r) → (r < 116 ∨ 125 ≤ r) → rE σ σ3 m r) → ∀ x : Int, x = b → q_T l K L R_Mo b_Mo_changes 12 (some .int) 4 (fun v σ' => v = some (vi (vr (fun k => (be n (cT P n (lowv C j) (44 - j) (j - 44) n) k).sign) (n + 1)).1) ∧ rO σ σ' m ∧ (∀ r, (r < 105 ∨ 108 < r) → (r < 116 ∨ 125 ≤ r) → rE σ σ' m r)) 202 [some (.ref m), some (vi p), some (vi c), some (vi j), some (vi n), some (vi ((j - 44 : Nat) : Int)), some (vi ((44 - j : Nat) : Int)), none, some (vi s), some (vi x), none, none] [] σ3 := by
        intro r
        induction r with
        | zero =>
          intro b hb hb1 σ3 g1 g2 g3 g4 g5 x hx
          refine q_iload d_Mo_changes_202 rfl ?_
          refine q_iload d_Mo_changes_204 rfl ?_
          refine q_iload d_Mo_changes_206 rfl ?_
          refine q_isub d_Mo_changes_208 ?_
          refine q_icmp_gt (tgt := 238) (by omega) (by omega) d_Mo_changes_209 (by decide) (fun c209 => ?_) (fun c209 => absurd c209 (by omega))
          refine q_iinc_8 d_Mo_changes_238 (by decide) rfl ?_
          refine q_goto (tgt := 192) d_Mo_changes_241 (by decide) ?_
          refine q_drop_9 ?_
          refine ih (t + 1) (by omega) σ3 (fun y hy => g1 y (by omega)) (fun y h1 h2 => ?_) g4 g5 _ (by omega)
          exact if ey : y = n - t then by subst ey; rw [pit_top (by omega)]; exact g1 _ (by omega) else g3 y (by omega) h2
        | succ r ihb =>
          intro b hb hb1 σ3 g1 g2 g3 g4 g5 x hx
          refine q_iload d_Mo_changes_202 rfl ?_
          refine q_iload d_Mo_changes_204 rfl ?_
          refine q_iload d_Mo_changes_206 rfl ?_
          refine q_isub d_Mo_changes_208 ?_
          refine q_icmp_gt (tgt := 238) (by omega) (by omega) d_Mo_changes_209 (by decide) (fun c209 => absurd c209 (by omega)) (fun c209 => ?_)
          refine q_aload_n d_Mo_changes_212 rfl ?_
          refine q_bipush d_Mo_changes_213 (by decide) ?_
          refine q_iload d_Mo_changes_215 rfl ?_
          refine q_iadd d_Mo_changes_217 ?_
          refine q_topi (show _ = ((116 + b : Nat) : Int) by omega) ?_
          refine q_bipush d_Mo_changes_218 (by decide) ?_
          refine q_iload d_Mo_changes_220 rfl ?_
          refine q_iadd d_Mo_changes_222 ?_
          refine q_topi (show _ = ((116 + b : Nat) : Int) by omega) ?_
          refine q_bipush d_Mo_changes_223 (by decide) ?_
          refine q_iload d_Mo_changes_225 rfl ?_
          refine q_iadd d_Mo_changes_227 ?_
          refine q_topi (show _ = ((116 + (b - 1) : Nat) : Int) by omega) ?_
          refine q_iconst d_Mo_changes_228 rfl ?_
          refine q_callV (As := [vi ((116 + b : Nat) : Int), vi ((116 + b : Nat) : Int), vi ((116 + (b - 1) : Nat) : Int), vi 1]) (c_Mo_sum l K (r := 116 + b) (i := 116 + b) (j := 116 + (b - 1)) (u := u + 2) ⟨hM0, hM1, hM2, hM3, hM4, hM5, hM6, hM7, hM8, hM9⟩ (by omega) (by omega) (by omega) (g2 b (Nat.le_refl _) (by omega)) (g1 (b - 1) (by omega)) (Or.inl rfl) (hpit t b (by omega) (by omega)) (hpit (t + 1) (b - 1) (by omega) (by omega)) (by omega)) w_cd_Mo_sum w_ini_Mo w_ml_Mo_83 w_im_Mo_sum w_se_Mo_sum (by assumption) rfl hd_Mo_sum rfl (Nat.le_of_ble_eq_true rfl) d_Mo_changes_229 (by decide) (by decide) (fun v σ4 hp => ?_)
          obtain ⟨rfl, k1, k2, k3⟩ := hp
          rw [← psm_s (pit (cT P n (lowv C j) (44 - j) (j - 44) n) t) b (by omega)] at k1
          refine q_iinc_9 d_Mo_changes_232 (by decide) rfl ?_
          refine q_goto (tgt := 202) d_Mo_changes_235 (by decide) ?_
          refine ihb (b + 1) (by omega) (by omega) σ4 (fun y hy => ?_) (fun y h1 h2 => (g2 y (by omega) h2).mv (k3 _ (by omega))) (fun y h1 h2 => (g3 y h1 h2).mv (k3 _ (by omega))) (fun q h1 h2 h3 h4 => by rw [k2 q h1 h2 h3 h4]; exact g4 q h1 h2 h3 h4) (fun r h1 h2 => (g5 r h1 h2).trans (k3 r (by omega))) _ (by omega)
          exact if ey : y = b then by subst ey; exact k1 else (g1 y (by omega)).mv (k3 _ (by omega))
      refine q_iconst d_Mo_changes_199 rfl ?_
      refine q_ist_9 d_Mo_changes_200 (by decide) rfl ?_
      exact pass (n - t) 1 (by omega) (by omega) σ1 (fun y hy => by rw [show y = 0 by omega]; exact f1 0 (by omega)) (fun y h1 h2 => f1 y h2) f2 f3 f4 _ rfl
  have loopA : ∀ (r t : Nat), t + r = n → ∀ (σ1 : q_S), (∀ y, y ≤ t → rV σ1 m (116 + y) (cT P n (lowv C j) (44 - j) (j - 44) t y)) → rV σ1 m 106 (lowv C j) → rO σ σ1 m → (∀ r, (r < 105 ∨ 108 < r) → (r < 116 ∨ 125 ≤ r) → rE σ σ1 m r) → ∀ s x : Int, s = t → x = (n : Int) - 1 - t → q_T l K L R_Mo b_Mo_changes 12 (some .int) 4 (fun v σ' => v = some (vi (vr (fun k => (be n (cT P n (lowv C j) (44 - j) (j - 44) n) k).sign) (n + 1)).1) ∧ rO σ σ' m ∧ (∀ r, (r < 105 ∨ 108 < r) → (r < 116 ∨ 125 ≤ r) → rE σ σ' m r)) 56 [some (.ref m), some (vi p), some (vi c), some (vi j), some (vi n), some (vi ((j - 44 : Nat) : Int)), some (vi ((44 - j : Nat) : Int)), some (vi s), some (vi x), none, none, none] [] σ1 := by
    intro r
    induction r with
    | zero =>
      intro t ht σ1 f1 f2 f3 f4 s x hs hx
      refine q_iload d_Mo_changes_56 rfl ?_
      refine q_if_lt (tgt := 189) (by omega) d_Mo_changes_58 (by decide) (fun c58 => ?_) (fun c58 => absurd c58 (by omega))
      refine q_iconst d_Mo_changes_189 rfl ?_
      refine q_ist_8 d_Mo_changes_190 (by decide) rfl ?_
      refine q_drop_7 ?_
      exact loopC n 0 (by omega) σ1 (fun y hy => by have := f1 y (by omega); rw [show t = n by omega] at this; exact this) (fun y h1 h2 => by omega) f3 f4 _ rfl
    | succ r ih =>
      intro t ht σ1 f1 f2 f3 f4 s x hs hx
      refine q_iload d_Mo_changes_56 rfl ?_
      refine q_if_lt (tgt := 189) (by omega) d_Mo_changes_58 (by decide) (fun c58 => absurd c58 (by omega)) (fun c58 => ?_)
      have inner : ∀ (b : Nat), b ≤ t + 1 → ∀ (σ3 : q_S), (∀ y, y < b → rV σ3 m (116 + y) (cT P n (lowv C j) (44 - j) (j - 44) t y)) → (∀ y, (b ≤ y ∧ 1 ≤ y) → y ≤ t + 1 → rV σ3 m (116 + y) (cT P n (lowv C j) (44 - j) (j - 44) (t + 1) y)) → (∀ y, b ≤ y → y < 1 → rV σ3 m (116 + y) (cT P n (lowv C j) (44 - j) (j - 44) t y * lowv C j)) → rV σ3 m 106 (lowv C j) → rO σ σ3 m → (∀ r, (r < 105 ∨ 108 < r) → (r < 116 ∨ 125 ≤ r) → rE σ σ3 m r) → ∀ y' : Int, y' = (b : Int) - 1 → q_T l K L R_Mo b_Mo_changes 12 (some .int) 4 (fun v σ' => v = some (vi (vr (fun k => (be n (cT P n (lowv C j) (44 - j) (j - 44) n) k).sign) (n + 1)).1) ∧ rO σ σ' m ∧ (∀ r, (r < 105 ∨ 108 < r) → (r < 116 ∨ 125 ≤ r) → rE σ σ' m r)) 81 [some (.ref m), some (vi p), some (vi c), some (vi j), some (vi n), some (vi ((j - 44 : Nat) : Int)), some (vi ((44 - j : Nat) : Int)), some (vi s), some (vi x), some (vi y'), none, none] [] σ3 := by
        intro b
        induction b with
        | zero =>
          intro hb σ3 g0 g1 g2 g3 g4 g5 y' hy'
          refine q_iload d_Mo_changes_81 rfl ?_
          refine q_if_lt (tgt := 148) (by omega) d_Mo_changes_83 (by decide) (fun c83 => ?_) (fun c83 => absurd c83 (by omega))
          refine q_iinc_7 d_Mo_changes_148 (by decide) rfl ?_
          refine q_aload_n d_Mo_changes_151 rfl ?_
          refine q_bipush d_Mo_changes_152 (by decide) ?_
          refine q_bipush d_Mo_changes_154 (by decide) ?_
          refine q_iload_n d_Mo_changes_156 rfl ?_
          refine q_imul d_Mo_changes_157 ?_
          refine q_iload d_Mo_changes_158 rfl ?_
          refine q_iadd d_Mo_changes_160 ?_
          refine q_topi (show _ = ((9 * p + (n - (t + 1)) : Nat) : Int) by omega) ?_
          refine q_iload d_Mo_changes_161 rfl ?_
          refine q_iload d_Mo_changes_163 rfl ?_
          refine q_iload d_Mo_changes_165 rfl ?_
          refine q_isub d_Mo_changes_167 ?_
          refine q_imul d_Mo_changes_168 ?_
          refine q_topi (show _ = (((j - 44) * (t + 1) : Nat) : Int) by rw [Int.natCast_mul]; congr 1; omega) ?_
          refine q_callV (As := [vi 108, vi ((9 * p + (n - (t + 1)) : Nat) : Int), vi (((j - 44) * (t + 1) : Nat) : Int)]) (c_Mo_lift l K (r := 108) (i := 9 * p + (n - (t + 1))) (p := (j - 44) * (t + 1)) (u := w) ⟨hM0, hM1, hM2, hM3, hM4, hM5, hM6, hM7, hM8, hM9⟩ (by decide) (by omega) ((hP (n - (t + 1)) (by omega)).mv (g5 _ (by omega) (by omega))) (hPb _ (by omega)) (by have := Nat.mul_le_mul_left (j - 44) (show t + 1 ≤ n by omega); omega)) w_cd_Mo_lift w_ini_Mo w_ml_Mo_108 w_im_Mo_lift w_se_Mo_lift (by assumption) rfl hd_Mo_lift rfl (Nat.le_of_ble_eq_true rfl) d_Mo_changes_169 (by decide) (by decide) (fun v σ4 hp => ?_)
          obtain ⟨rfl, k1, k2, k3⟩ := hp
          refine q_aload_n d_Mo_changes_172 rfl ?_
          refine q_bipush d_Mo_changes_173 (by decide) ?_
          refine q_bipush d_Mo_changes_175 (by decide) ?_
          refine q_bipush d_Mo_changes_177 (by decide) ?_
          refine q_iconst d_Mo_changes_179 rfl ?_
          refine q_callV (As := [vi 116, vi 116, vi 108, vi 1]) (c_Mo_sum l K (r := 116) (i := 116) (j := 108) (u := z) ⟨hM0, hM1, hM2, hM3, hM4, hM5, hM6, hM7, hM8, hM9⟩ (by decide) (by decide) (by decide) ((g2 0 (by omega) (by omega)).mv (k3 116 (by decide))) k1 (Or.inl rfl) (l16 (mul_lt_pow (hT t (by omega) 0) hLb) (by omega)) (l16 (show _ < (65536 : Int) ^ (w + (j - 44) * n / 16 + 1) from l16 (lift_lt (hPb _ (by omega))) (by have := Nat.div_le_div_right (c := 16) (Nat.mul_le_mul_left (j - 44) (show t + 1 ≤ n by omega)); omega)) (by omega)) (by omega)) w_cd_Mo_sum w_ini_Mo w_ml_Mo_83 w_im_Mo_sum w_se_Mo_sum (by assumption) rfl hd_Mo_sum rfl (Nat.le_of_ble_eq_true rfl) d_Mo_changes_180 (by decide) (by decide) (fun v σ5 hp => ?_)
          obtain ⟨rfl, k4, k5, k6⟩ := hp
          refine q_iinc_8 d_Mo_changes_183 (by decide) rfl ?_
          refine q_goto (tgt := 56) d_Mo_changes_186 (by decide) ?_
          refine q_drop_9 ?_
          refine ih (t + 1) (by omega) σ5 (fun y hy => ?_) ((g3.mv (k3 106 (by decide))).mv (k6 106 (by decide))) (fun q h1 h2 h3 h4 => by rw [k5 q h1 h2 h3 h4, k2 q h1 h2 h3 h4]; exact g4 q h1 h2 h3 h4) (fun r h1 h2 => ((g5 r h1 h2).trans (k3 r (by omega))).trans (k6 r (by omega))) _ _ (by omega) (by omega)
          exact if ey : y = 0 then by subst ey; rw [cT, if_pos rfl]; rw [Int.one_mul] at k4; exact k4 else ((g1 y (by omega) hy).mv (k3 _ (by omega))).mv (k6 _ (by omega))
        | succ b ihb =>
          intro hb σ3 g0 g1 g2 g3 g4 g5 y' hy'
          refine q_iload d_Mo_changes_81 rfl ?_
          refine q_if_lt (tgt := 148) (by omega) d_Mo_changes_83 (by decide) (fun c83 => absurd c83 (by omega)) (fun c83 => ?_)
          refine q_aload_n d_Mo_changes_86 rfl ?_
          refine q_bipush d_Mo_changes_87 (by decide) ?_
          refine q_bipush d_Mo_changes_89 (by decide) ?_
          refine q_iload d_Mo_changes_91 rfl ?_
          refine q_iadd d_Mo_changes_93 ?_
          refine q_topi (show _ = ((116 + b : Nat) : Int) by omega) ?_
          refine q_bipush d_Mo_changes_94 (by decide) ?_
          refine q_callV (As := [vi 107, vi ((116 + b : Nat) : Int), vi 106]) (c_Mo_product l K (r := 107) (i := 116 + b) (j := 106) (u := u) (v := v) ⟨hM0, hM1, hM2, hM3, hM4, hM5, hM6, hM7, hM8, hM9⟩ (by decide) (by omega) (by decide) (g0 b (by omega)) g3 (hT t (by omega) b) hLb (by omega)) w_cd_Mo_product w_ini_Mo w_ml_Mo_76 w_im_Mo_product w_se_Mo_product (by assumption) rfl hd_Mo_product rfl (Nat.le_of_ble_eq_true rfl) d_Mo_changes_96 (by decide) (by decide) (fun v σ4 hp => ?_)
          obtain ⟨rfl, k1, k2, k3⟩ := hp
          refine q_iload d_Mo_changes_99 rfl ?_
          refine q_if_le (tgt := 134) (by omega) d_Mo_changes_101 (by decide) (fun cb => ?_) (fun cb => ?_)
          · refine q_aload_n d_Mo_changes_134 rfl ?_
            refine q_bipush d_Mo_changes_135 (by decide) ?_
            refine q_bipush d_Mo_changes_137 (by decide) ?_
            refine q_callV (As := [vi 116, vi 107]) (c_Mo_copy l K (r := 116) (i := 107) ⟨hM0, hM1, hM2, hM3, hM4, hM5, hM6, hM7, hM8, hM9⟩ (by decide) (by decide) k1) w_cd_Mo_copy w_ini_Mo w_ml_Mo_69 w_im_Mo_copy w_se_Mo_copy (by assumption) rfl hd_Mo_copy rfl (Nat.le_of_ble_eq_true rfl) d_Mo_changes_139 (by decide) (by decide) (fun v σ5 hp => ?_)
            obtain ⟨rfl, k4, k5, k9, k6⟩ := hp
            refine q_iinc_9 d_Mo_changes_142 (by decide) rfl ?_
            refine q_goto (tgt := 81) d_Mo_changes_145 (by decide) ?_
            obtain rfl : b = 0 := by omega
            refine ihb (by omega) σ5 (fun y hy => by omega) (fun y h1 h2 => ?_) (fun y h1 h2 => ?_) ((g3.mv (k3 106 (by decide))).mv (k6 106 (by decide))) (fun q h1 h2 h3 h4 => by rw [k5 q h1 h2 h3 h4, k2 q h1 h2 h3 h4]; exact g4 q h1 h2 h3 h4) (fun r h1 h2 => ((g5 r h1 h2).trans (k3 r (by omega))).trans (k6 r (by omega))) _ (by omega)
            · exact ((g1 y (by omega) h2).mv (k3 _ (by omega))).mv (k6 _ (by omega))
            · obtain rfl : y = 0 := by omega
              exact k4
          · refine q_aload_n d_Mo_changes_104 rfl ?_
            refine q_bipush d_Mo_changes_105 (by decide) ?_
            refine q_bipush d_Mo_changes_107 (by decide) ?_
            refine q_iload d_Mo_changes_109 rfl ?_
            refine q_iadd d_Mo_changes_111 ?_
            refine q_topi (show _ = ((116 + (b - 1) : Nat) : Int) by omega) ?_
            refine q_iload d_Mo_changes_112 rfl ?_
            refine q_callV (As := [vi 108, vi ((116 + (b - 1) : Nat) : Int), vi ((44 - j : Nat) : Int)]) (c_Mo_lift l K (r := 108) (i := 116 + (b - 1)) (p := 44 - j) (u := u) ⟨hM0, hM1, hM2, hM3, hM4, hM5, hM6, hM7, hM8, hM9⟩ (by decide) (by omega) ((g0 (b - 1) (by omega)).mv (k3 _ (by omega))) (hT t (by omega) (b - 1)) (by omega)) w_cd_Mo_lift w_ini_Mo w_ml_Mo_108 w_im_Mo_lift w_se_Mo_lift (by assumption) rfl hd_Mo_lift rfl (Nat.le_of_ble_eq_true rfl) d_Mo_changes_114 (by decide) (by decide) (fun v σ5 hp => ?_)
            obtain ⟨rfl, k4, k5, k6⟩ := hp
            refine q_aload_n d_Mo_changes_117 rfl ?_
            refine q_bipush d_Mo_changes_118 (by decide) ?_
            refine q_iload d_Mo_changes_120 rfl ?_
            refine q_iadd d_Mo_changes_122 ?_
            refine q_topi (show _ = ((116 + b : Nat) : Int) by omega) ?_
            refine q_bipush d_Mo_changes_123 (by decide) ?_
            refine q_bipush d_Mo_changes_125 (by decide) ?_
            refine q_iconst d_Mo_changes_127 rfl ?_
            refine q_callV (As := [vi ((116 + b : Nat) : Int), vi 107, vi 108, vi 1]) (c_Mo_sum l K (r := 116 + b) (i := 107) (j := 108) (u := z) ⟨hM0, hM1, hM2, hM3, hM4, hM5, hM6, hM7, hM8, hM9⟩ (by omega) (by decide) (by decide) (k1.mv (k6 107 (by decide))) k4 (Or.inl rfl) (l16 (mul_lt_pow (hT t (by omega) b) hLb) (by omega)) (l16 (lift_lt (hT t (by omega) (b - 1))) (by omega)) (by omega)) w_cd_Mo_sum w_ini_Mo w_ml_Mo_83 w_im_Mo_sum w_se_Mo_sum (by assumption) rfl hd_Mo_sum rfl (Nat.le_of_ble_eq_true rfl) d_Mo_changes_128 (by decide) (by decide) (fun v σ6 hp => ?_)
            obtain ⟨rfl, k7, k8, k9⟩ := hp
            rw [Int.one_mul] at k7
            refine q_goto (tgt := 142) d_Mo_changes_131 (by decide) ?_
            refine q_iinc_9 d_Mo_changes_142 (by decide) rfl ?_
            refine q_goto (tgt := 81) d_Mo_changes_145 (by decide) ?_
            refine ihb (by omega) σ6 (fun y hy => (((g0 y (by omega)).mv (k3 _ (by omega))).mv (k6 _ (by omega))).mv (k9 _ (by omega))) (fun y h1 h2 => ?_) (fun y h1 h2 => by omega) (((g3.mv (k3 106 (by decide))).mv (k6 106 (by decide))).mv (k9 106 (by omega))) (fun q h1 h2 h3 h4 => by rw [k8 q h1 h2 h3 h4, k5 q h1 h2 h3 h4, k2 q h1 h2 h3 h4]; exact g4 q h1 h2 h3 h4) (fun r h1 h2 => (((g5 r h1 h2).trans (k3 r (by omega))).trans (k6 r (by omega))).trans (k9 r (by omega))) _ (by omega)
            exact if ey : y = b then by subst ey; rw [cT, if_neg (by omega)]; exact k7 else (((g1 y (by omega) h2).mv (k3 _ (by omega))).mv (k6 _ (by omega))).mv (k9 _ (by omega))
      refine q_aload_n d_Mo_changes_61 rfl ?_
      refine q_bipush d_Mo_changes_62 (by decide) ?_
      refine q_iload d_Mo_changes_64 rfl ?_
      refine q_iadd d_Mo_changes_66 ?_
      refine q_topi (show _ = ((117 + t : Nat) : Int) by omega) ?_
      refine q_bipush d_Mo_changes_67 (by decide) ?_
      refine q_iload d_Mo_changes_69 rfl ?_
      refine q_iadd d_Mo_changes_71 ?_
      refine q_topi (show _ = ((116 + t : Nat) : Int) by omega) ?_
      refine q_iload d_Mo_changes_72 rfl ?_
      refine q_callV (As := [vi ((117 + t : Nat) : Int), vi ((116 + t : Nat) : Int), vi ((44 - j : Nat) : Int)]) (c_Mo_lift l K (r := 117 + t) (i := 116 + t) (p := 44 - j) (u := u) ⟨hM0, hM1, hM2, hM3, hM4, hM5, hM6, hM7, hM8, hM9⟩ (by omega) (by omega) (f1 t (Nat.le_refl _)) (hT t (by omega) t) (by omega)) w_cd_Mo_lift w_ini_Mo w_ml_Mo_108 w_im_Mo_lift w_se_Mo_lift (by assumption) rfl hd_Mo_lift rfl (Nat.le_of_ble_eq_true rfl) d_Mo_changes_74 (by decide) (by decide) (fun v σ2 hp => ?_)
      obtain ⟨rfl, k1, k2, k3⟩ := hp
      refine q_iload d_Mo_changes_77 rfl ?_
      refine q_ist_9 d_Mo_changes_79 (by decide) rfl ?_
      refine inner (t + 1) (Nat.le_refl _) σ2 (fun y hy => (f1 y (by omega)).mv (k3 _ (by omega))) (fun y h1 h2 => ?_) (fun y h1 h2 => by omega) (f2.mv (k3 _ (by omega))) (fun q h1 h2 h3 h4 => by rw [k2 q h1 h2 h3 h4]; exact f3 q h1 h2 h3 h4) (fun r h1 h2 => (f4 r h1 h2).trans (k3 r (by omega))) _ (by omega)
      obtain rfl : y = t + 1 := by omega
      rw [cT, if_neg (by omega), cT_z t (t + 1) (by omega), Int.zero_mul, Int.zero_add, Nat.add_sub_cancel, show 116 + (t + 1) = 117 + t by omega]
      exact k1
  refine q_aload_n d_Mo_changes_0 rfl ?_
  refine q_gr (by assumption) pc_Mo 4 (by decide) w_fl_Mo_20 rfl (by rfl) d_Mo_changes_1 ?_
  refine q_iload_n d_Mo_changes_4 rfl ?_
  refine q_ial (p) (by assumption) (by omega) (by omega) (by omega) d_Mo_changes_5 ?_
  refine q_topi hd ?_
  refine q_ist_4 d_Mo_changes_6 (by decide) rfl ?_
  refine q_aload_n d_Mo_changes_8 rfl ?_
  refine q_bipush d_Mo_changes_9 (by decide) ?_
  refine q_iload_n d_Mo_changes_11 rfl ?_
  refine q_iload_n d_Mo_changes_12 rfl ?_
  refine q_callV (As := [vi 106, vi c, vi j]) (c_Mo_lower l K (o := 106) (c := c) (j := j) (u := cu) ⟨hM0, hM1, hM2, hM3, hM4, hM5, hM6, hM7, hM8, hM9⟩ (by decide) (by omega) (by decide) (by omega) hC hCb hju (by omega)) w_cd_Mo_lower w_ini_Mo w_ml_Mo_111 w_im_Mo_lower w_se_Mo_lower (by assumption) rfl hd_Mo_lower rfl (Nat.le_of_ble_eq_true rfl) d_Mo_changes_13 (by decide) (by decide) (fun v σ1 hp => ?_)
  obtain ⟨rfl, k1, k2, k3⟩ := hp
  refine q_ist_5 d_Mo_changes_16 (by decide) rfl ?_
  refine q_iload_n d_Mo_changes_18 rfl ?_
  refine q_bipush d_Mo_changes_19 (by decide) ?_
  refine q_jn2 (V := ((44 - j : Nat) : Int)) 32 (fun jn => ?_) ?_
  · refine q_icmp_ge (tgt := 31) (by omega) (by omega) d_Mo_changes_21 (by decide) (fun cw => ?_) (fun cw => ?_)
    · refine q_iconst d_Mo_changes_31 rfl ?_
      exact jn _ (by omega)
    · refine q_bipush d_Mo_changes_24 (by decide) ?_
      refine q_iload_n d_Mo_changes_26 rfl ?_
      refine q_isub d_Mo_changes_27 ?_
      refine q_goto (tgt := 32) d_Mo_changes_28 (by decide) ?_
      exact jn _ (by omega)
  · refine q_ist_6 d_Mo_changes_32 (by decide) rfl ?_
    refine q_aload_n d_Mo_changes_34 rfl ?_
    refine q_bipush d_Mo_changes_35 (by decide) ?_
    refine q_bipush d_Mo_changes_37 (by decide) ?_
    refine q_iload_n d_Mo_changes_39 rfl ?_
    refine q_imul d_Mo_changes_40 ?_
    refine q_iload d_Mo_changes_41 rfl ?_
    refine q_iadd d_Mo_changes_43 ?_
    refine q_topi (show _ = ((9 * p + n : Nat) : Int) by omega) ?_
    refine q_callV (As := [vi 116, vi ((9 * p + n : Nat) : Int)]) (c_Mo_copy l K (r := 116) (i := 9 * p + n) (x := P n) ⟨hM0, hM1, hM2, hM3, hM4, hM5, hM6, hM7, hM8, hM9⟩ (by decide) (by omega) ((hP n (Nat.le_refl _)).mv (k3 _ (by omega) (by omega)))) w_cd_Mo_copy w_ini_Mo w_ml_Mo_69 w_im_Mo_copy w_se_Mo_copy (by assumption) rfl hd_Mo_copy rfl (Nat.le_of_ble_eq_true rfl) d_Mo_changes_44 (by decide) (by decide) (fun v σ2 hp => ?_)
    obtain ⟨rfl, k4, k5, k6, k7⟩ := hp
    refine q_iconst d_Mo_changes_47 rfl ?_
    refine q_ist_7 d_Mo_changes_48 (by decide) rfl ?_
    refine q_iload d_Mo_changes_50 rfl ?_
    refine q_iconst d_Mo_changes_52 rfl ?_
    refine q_isub d_Mo_changes_53 ?_
    refine q_ist_8 d_Mo_changes_54 (by decide) rfl ?_
    exact loopA n 0 (by omega) σ2 (fun y hy => by rw [show y = 0 by omega, cT, if_pos rfl]; exact k4) (k1.mv (k7 106 (by decide))) (k2.trans k5) (fun r h1 h2 => (k3 r (by omega) (by omega)).trans (k7 r (by omega))) _ _ rfl (by omega)
