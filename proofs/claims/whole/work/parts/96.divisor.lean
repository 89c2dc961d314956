/-! THE REFERENCE: divisor -/
/-- without the common divisor of its coefficients, the top one above 0 -/
def prm (P : Nat → Int) (n k : Nat) : Int := (P k).tdiv (gn P n : Int) * (P (n - 1)).sign
theorem prm_ne {P : Nat → Int} {n : Nat} (hn : 1 ≤ n) (hl : P (n - 1) ≠ 0) : prm P n (n - 1) ≠ 0 := by
  have hg : 0 < gn P n := gn_pos (k := n) (i := n - 1) (by omega) hl
  obtain ⟨c, hc⟩ := Int.ofNat_dvd_left.2 (gn_dvd (P := P) n (n - 1) (by omega))
  unfold prm
  rw [hc, Int.mul_tdiv_cancel_left _ (by omega)]
  refine Int.mul_ne_zero (fun h => ?_) (fun h => ?_)
  · rw [h, Int.mul_zero] at hc; exact hl hc
  · rw [← hc] at h; exact hl (Int.sign_eq_zero_iff_zero.1 h)
/-- after enough steps of the remainder -/
def rsf (Q : Nat → Int) (b : Nat) (P : Nat → Int) (n : Nat) : (Nat → Int) × Nat := rst Q b P n n
theorem rst_stop {Q : Nat → Int} {b : Nat} {P : Nat → Int} {n t : Nat} (h : (rst Q b P n t).2 < b) : ∀ s, rst Q b P n (t + s) = rst Q b P n t
  | 0 => rfl
  | s + 1 => by
    show rst Q b P n (t + s + 1) = _
    rw [rst, rst_stop h s, if_pos h]
theorem rst_cnt {Q : Nat → Int} {b : Nat} {P : Nat → Int} {n : Nat} (hb : 1 ≤ b) : ∀ t, (rst Q b P n t).2 < b ∨ (rst Q b P n t).2 + t ≤ n
  | 0 => Or.inr (Nat.le_refl _)
  | t + 1 => by
    rw [rst]
    by_cases h : (rst Q b P n t).2 < b
    · rw [if_pos h]; exact Or.inl h
    · rw [if_neg h]
      have h1 := top_le (rsp Q b (rst Q b P n t).1 (rst Q b P n t).2) ((rst Q b P n t).2 - 1)
      rcases rst_cnt (Q := Q) (b := b) (P := P) (n := n) hb t with h2 | h2
      · exact absurd h2 h
      · right; show top _ _ + (t + 1) ≤ n; omega
theorem rsf_lt {Q : Nat → Int} {b : Nat} {P : Nat → Int} {n : Nat} (hb : 1 ≤ b) : (rsf Q b P n).2 < b := by
  unfold rsf
  rcases rst_cnt (Q := Q) (b := b) (P := P) (n := n) hb n with h | h
  · exact h
  · omega
theorem rsf_eq {Q : Nat → Int} {b : Nat} {P : Nat → Int} {n t : Nat} (hb : 1 ≤ b) (h : (rst Q b P n t).2 < b) : rst Q b P n t = rsf Q b P n := by
  have h2 := rsf_lt (Q := Q) (P := P) (n := n) hb
  unfold rsf at h2 ⊢
  rcases Nat.le_total t n with hl | hl
  · obtain ⟨s, rfl⟩ : ∃ s, n = t + s := ⟨n - t, by omega⟩
    exact (rst_stop h s).symm
  · obtain ⟨s, rfl⟩ : ∃ s, t = n + s := ⟨t - n, by omega⟩
    exact rst_stop h2 s
theorem rst_lead {Q : Nat → Int} {b : Nat} {P : Nat → Int} {n : Nat} (hl : 0 < n → P (n - 1) ≠ 0) : ∀ t, 0 < (rst Q b P n t).2 → (rst Q b P n t).1 ((rst Q b P n t).2 - 1) ≠ 0
  | 0 => hl
  | t + 1 => by
    rw [rst]
    by_cases h : (rst Q b P n t).2 < b
    · rw [if_pos h]; exact rst_lead hl t
    · rw [if_neg h]; exact top_ne
/-- the pairs of the greatest common divisor's way -/
def dst (P Q : Nat → Int) (n b : Nat) : Nat → ((Nat → Int) × Nat) × ((Nat → Int) × Nat)
  | 0 => ((prm P n, n), (prm Q b, b))
  | s + 1 => if (dst P Q n b s).2.2 = 0 then dst P Q n b s else ((dst P Q n b s).2, (prm (rsf (dst P Q n b s).2.1 (dst P Q n b s).2.2 (dst P Q n b s).1.1 (dst P Q n b s).1.2).1 (rsf (dst P Q n b s).2.1 (dst P Q n b s).2.2 (dst P Q n b s).1.1 (dst P Q n b s).1.2).2, (rsf (dst P Q n b s).2.1 (dst P Q n b s).2.2 (dst P Q n b s).1.1 (dst P Q n b s).1.2).2))
theorem dst_s {P Q : Nat → Int} {n b s : Nat} {A C : Nat → Int} {a c : Nat} (h : dst P Q n b s = ((A, a), (C, c))) (hc : 1 ≤ c) : dst P Q n b (s + 1) = ((C, c), (prm (rsf C c A a).1 (rsf C c A a).2, (rsf C c A a).2)) := by
  rw [dst, h, if_neg (by show ¬ c = 0; omega)]
set_option maxHeartbeats 4000000 in
set_option maxRecDepth 100000 in
theorem c_Mo_divisor (l : Launch) (K : pw_K) {L : q_L} {σ : q_S} {m o p i n b u v : Nat} {P Q : Nat → Int} (hL : mL L m) (ho : o < 10) (hp : p < 10) (hi : i < 10) (ho5 : o < 5 ∨ 7 < o) (hp5 : p < 5 ∨ 7 < p) (hi5 : i < 5 ∨ 7 < i) (hn1 : 1 ≤ n) (hn9 : n ≤ 9) (hb1 : 1 ≤ b) (hb9 : b ≤ 9) (hdp : σ (m + 4) p = (n : Int) - 1) (hdq : σ (m + 4) i = (b : Int) - 1) (hP : ∀ k, k < n → rV σ m (9 * p + k) (P k)) (hQ : ∀ k, k < b → rV σ m (9 * i + k) (Q k)) (hlP : P (n - 1) ≠ 0) (hlQ : Q (b - 1) ≠ 0) (hPb : ∀ k, k < n → ((P k).natAbs : Int) < 65536 ^ 1023) (hQb : ∀ k, k < b → ((Q k).natAbs : Int) < 65536 ^ 1023) (hB : ∀ s, (∀ k, k < (dst P Q n b s).1.2 → (((dst P Q n b s).1.1 k).natAbs : Int) < 65536 ^ v) ∧ (∀ k, k < (dst P Q n b s).2.2 → (((dst P Q n b s).2.1 k).natAbs : Int) < 65536 ^ v) ∧ (1 ≤ (dst P Q n b s).2.2 → ∀ t k, k < (rst (dst P Q n b s).2.1 (dst P Q n b s).2.2 (dst P Q n b s).1.1 (dst P Q n b s).1.2 t).2 → (((rst (dst P Q n b s).2.1 (dst P Q n b s).2.2 (dst P Q n b s).1.1 (dst P Q n b s).1.2 t).1 k).natAbs : Int) < 65536 ^ u)) (huv : u + v + 1 ≤ 1024) : q_C l K L y_Mo_divisor b_Mo_divisor 4 none 4 [.ref m, vi o, vi p, vi i] σ (fun v σ' => v = none ∧ ∃ s, (dst P Q n b s).2.2 = 0 ∧ σ' (m + 4) o = ((dst P Q n b s).1.2 : Int) - 1 ∧ (∀ k, k < (dst P Q n b s).1.2 → rV σ' m (9 * o + k) ((dst P Q n b s).1.1 k)) ∧ (∀ r, (r < 97 ∨ 103 ≤ r) → (r < 45 ∨ 72 ≤ r) → (r < 9 * o ∨ 9 * o + 9 ≤ r) → rE σ σ' m r) ∧ (∀ j, j ≠ o → j ≠ 5 → j ≠ 6 → j ≠ 7 → σ' (m + 4) j = σ (m + 4) j) ∧ (∀ q, q ≠ m + 1 → q ≠ m + 2 → q ≠ m + 3 → q ≠ m + 4 → q ≠ m + 9 → σ' q = σ q)) := by
  obtain ⟨hM0, hM1, hM2, hM3, hM4, hM5, hM6, hM7, hM8, hM9⟩ := hL
  refine q_start [some (.ref m), some (vi o), some (vi p), some (vi i)] (by decide) (Nat.le_of_ble_eq_true rfl) (fun q h => h) ?_
  have loop : ∀ (fu s : Nat) (σ1 : q_S) (A C : Nat → Int) (a c : Nat), dst P Q n b s = ((A, a), (C, c)) → a ≤ 9 → c ≤ 9 → 1 ≤ a → c ≤ fu → A (a - 1) ≠ 0 → (1 ≤ c → C (c - 1) ≠ 0) → σ1 (m + 4) 5 = (a : Int) - 1 → (∀ k, k < a → rV σ1 m (9 * 5 + k) (A k)) → σ1 (m + 4) 6 = (c : Int) - 1 → (∀ k, k < c → rV σ1 m (9 * 6 + k) (C k)) → (∀ r, (r < 97 ∨ 103 ≤ r) → (r < 45 ∨ 72 ≤ r) → rE σ σ1 m r) → (∀ j, j ≠ 5 → j ≠ 6 → j ≠ 7 → σ1 (m + 4) j = σ (m + 4) j) → (∀ q, q ≠ m + 1 → q ≠ m + 2 → q ≠ m + 3 → q ≠ m + 4 → q ≠ m + 9 → σ1 q = σ q) → q_T l K L R_Mo b_Mo_divisor 4 none 4 (fun v σ' => v = none ∧ ∃ s, (dst P Q n b s).2.2 = 0 ∧ σ' (m + 4) o = ((dst P Q n b s).1.2 : Int) - 1 ∧ (∀ k, k < (dst P Q n b s).1.2 → rV σ' m (9 * o + k) ((dst P Q n b s).1.1 k)) ∧ (∀ r, (r < 97 ∨ 103 ≤ r) → (r < 45 ∨ 72 ≤ r) → (r < 9 * o ∨ 9 * o + 9 ≤ r) → rE σ σ' m r) ∧ (∀ j, j ≠ o → j ≠ 5 → j ≠ 6 → j ≠ 7 → σ' (m + 4) j = σ (m + 4) j) ∧ (∀ q, q ≠ m + 1 → q ≠ m + 2 → q ≠ m + 3 → q ≠ m + 4 → q ≠ m + 9 → σ' q = σ q)) 24 [some (.ref m), some (vi o), some (vi p), some (vi i)] [] σ1 := by
    intro fu
    induction fu with
    | zero =>
      intro s σ1 A C a c hst ha9 hc9 ha1 hcf hla hlc f2 f3 f4 f5 f6 f7 f8
      refine q_aload_n d_Mo_divisor_24 rfl ?_
      refine q_gr (by assumption) pc_Mo 4 (by decide) w_fl_Mo_20 rfl (by rfl) d_Mo_divisor_25 ?_
      refine q_bipush d_Mo_divisor_28 (by decide) ?_
      refine q_ial (6) (by assumption) (by omega) (by omega) (by omega) d_Mo_divisor_30 ?_
      refine q_topi f4 ?_
      refine q_if_lt (tgt := 80) (by omega) d_Mo_divisor_31 (by decide) (fun c31 => ?_) (fun c31 => absurd c31 (by omega))
      refine q_aload_n d_Mo_divisor_80 rfl ?_
      refine q_iload_n d_Mo_divisor_81 rfl ?_
      refine q_iconst d_Mo_divisor_82 rfl ?_
      refine q_callV (As := [vi o, vi 5]) (c_Mo_copyPoly l K (p := o) (i := 5) (n := a) (P := A) ⟨hM0, hM1, hM2, hM3, hM4, hM5, hM6, hM7, hM8, hM9⟩ ho (by decide) (by omega) (by omega) f2 f3) w_cd_Mo_copyPoly w_ini_Mo w_ml_Mo_89 w_im_Mo_copyPoly w_se_Mo_copyPoly (by assumption) rfl hd_Mo_copyPoly rfl (Nat.le_of_ble_eq_true rfl) d_Mo_divisor_83 (by decide) (by decide) (fun v σ2 hp => ?_)
      obtain ⟨rfl, k1, k2, k3, k4, k5⟩ := hp
      exact q_vret rfl (⟨rfl, s, by rw [hst]; show c = 0; omega, by rw [hst]; exact k1, fun k hk => by rw [hst] at hk ⊢; exact k2 k hk, fun r h1 h2 h3 => (f6 r h1 h2).trans (k3 r (by omega)), fun j h1 h2 h3 h4 => by rw [k4 j h1]; exact f7 j h2 h3 h4, fun q h1 h2 h3 h4 h5 => by rw [k5 q h1 h2 h3 h4]; exact f8 q h1 h2 h3 h4 h5⟩) d_Mo_divisor_86
    | succ fu ih =>
      intro s σ1 A C a c hst ha9 hc9 ha1 hcf hla hlc f2 f3 f4 f5 f6 f7 f8
      refine q_aload_n d_Mo_divisor_24 rfl ?_
      refine q_gr (by assumption) pc_Mo 4 (by decide) w_fl_Mo_20 rfl (by rfl) d_Mo_divisor_25 ?_
      refine q_bipush d_Mo_divisor_28 (by decide) ?_
      refine q_ial (6) (by assumption) (by omega) (by omega) (by omega) d_Mo_divisor_30 ?_
      refine q_topi f4 ?_
      refine q_if_lt (tgt := 80) (by omega) d_Mo_divisor_31 (by decide) (fun cl => ?_) (fun cl => ?_)
      · refine q_aload_n d_Mo_divisor_80 rfl ?_
        refine q_iload_n d_Mo_divisor_81 rfl ?_
        refine q_iconst d_Mo_divisor_82 rfl ?_
        refine q_callV (As := [vi o, vi 5]) (c_Mo_copyPoly l K (p := o) (i := 5) (n := a) (P := A) ⟨hM0, hM1, hM2, hM3, hM4, hM5, hM6, hM7, hM8, hM9⟩ ho (by decide) (by omega) (by omega) f2 f3) w_cd_Mo_copyPoly w_ini_Mo w_ml_Mo_89 w_im_Mo_copyPoly w_se_Mo_copyPoly (by assumption) rfl hd_Mo_copyPoly rfl (Nat.le_of_ble_eq_true rfl) d_Mo_divisor_83 (by decide) (by decide) (fun v σ2 hp => ?_)
        obtain ⟨rfl, k1, k2, k3, k4, k5⟩ := hp
        exact q_vret rfl (⟨rfl, s, by rw [hst]; show c = 0; omega, by rw [hst]; exact k1, fun k hk => by rw [hst] at hk ⊢; exact k2 k hk, fun r h1 h2 h3 => (f6 r h1 h2).trans (k3 r (by omega)), fun j h1 h2 h3 h4 => by rw [k4 j h1]; exact f7 j h2 h3 h4, fun q h1 h2 h3 h4 h5 => by rw [k5 q h1 h2 h3 h4]; exact f8 q h1 h2 h3 h4 h5⟩) d_Mo_divisor_86
      · have hc1 : 1 ≤ c := by omega
        have hst1 := dst_s hst hc1
        have hlC := hlc hc1
        obtain ⟨x1, x2, x3⟩ := hB s
        rw [hst] at x1 x2 x3
        have hrl := rsf_lt (Q := C) (b := c) (P := A) (n := a) hc1
        have tail : ∀ (σ3 : q_S) (r : Nat) (R2 : Nat → Int), (prm (rsf C c A a).1 (rsf C c A a).2, (rsf C c A a).2) = (R2, r) → r < c → σ3 (m + 4) 5 = (r : Int) - 1 → (∀ k, k < r → rV σ3 m (9 * 5 + k) (R2 k)) → σ3 (m + 4) 6 = (c : Int) - 1 → (∀ k, k < c → rV σ3 m (9 * 6 + k) (C k)) → (∀ r, (r < 97 ∨ 103 ≤ r) → (r < 45 ∨ 72 ≤ r) → rE σ σ3 m r) → (∀ j, j ≠ 5 → j ≠ 6 → j ≠ 7 → σ3 (m + 4) j = σ (m + 4) j) → (∀ q, q ≠ m + 1 → q ≠ m + 2 → q ≠ m + 3 → q ≠ m + 4 → q ≠ m + 9 → σ3 q = σ q) → (1 ≤ r → R2 (r - 1) ≠ 0) → q_T l K L R_Mo b_Mo_divisor 4 none 4 (fun v σ' => v = none ∧ ∃ s, (dst P Q n b s).2.2 = 0 ∧ σ' (m + 4) o = ((dst P Q n b s).1.2 : Int) - 1 ∧ (∀ k, k < (dst P Q n b s).1.2 → rV σ' m (9 * o + k) ((dst P Q n b s).1.1 k)) ∧ (∀ r, (r < 97 ∨ 103 ≤ r) → (r < 45 ∨ 72 ≤ r) → (r < 9 * o ∨ 9 * o + 9 ≤ r) → rE σ σ' m r) ∧ (∀ j, j ≠ o → j ≠ 5 → j ≠ 6 → j ≠ 7 → σ' (m + 4) j = σ (m + 4) j) ∧ (∀ q, q ≠ m + 1 → q ≠ m + 2 → q ≠ m + 3 → q ≠ m + 4 → q ≠ m + 9 → σ' q = σ q)) 55 [some (.ref m), some (vi o), some (vi p), some (vi i)] [] σ3 := by
          intro σ3 r R2 hR2 hrc g1 g2 g3 g4 g5 g6 g7 g9
          refine q_aload_n d_Mo_divisor_55 rfl ?_
          refine q_bipush d_Mo_divisor_56 (by decide) ?_
          refine q_iconst d_Mo_divisor_58 rfl ?_
          refine q_callV (As := [vi 7, vi 5]) (c_Mo_copyPoly l K (p := 7) (i := 5) (n := r) (P := R2) ⟨hM0, hM1, hM2, hM3, hM4, hM5, hM6, hM7, hM8, hM9⟩ (by decide) (by decide) (by decide) (by omega) g1 g2) w_cd_Mo_copyPoly w_ini_Mo w_ml_Mo_89 w_im_Mo_copyPoly w_se_Mo_copyPoly (by assumption) rfl hd_Mo_copyPoly rfl (Nat.le_of_ble_eq_true rfl) d_Mo_divisor_59 (by decide) (by decide) (fun v σ4 hp => ?_)
          obtain ⟨rfl, k1, k2, k3, k4, k5⟩ := hp
          refine q_aload_n d_Mo_divisor_62 rfl ?_
          refine q_iconst d_Mo_divisor_63 rfl ?_
          refine q_bipush d_Mo_divisor_64 (by decide) ?_
          refine q_callV (As := [vi 5, vi 6]) (c_Mo_copyPoly l K (p := 5) (i := 6) (n := c) (P := C) ⟨hM0, hM1, hM2, hM3, hM4, hM5, hM6, hM7, hM8, hM9⟩ (by decide) (by decide) (by decide) (by omega) (by rw [k4 6 (by decide)]; exact g3) (fun k hk => (g4 k hk).mv (k3 _ (by omega)))) w_cd_Mo_copyPoly w_ini_Mo w_ml_Mo_89 w_im_Mo_copyPoly w_se_Mo_copyPoly (by assumption) rfl hd_Mo_copyPoly rfl (Nat.le_of_ble_eq_true rfl) d_Mo_divisor_66 (by decide) (by decide) (fun v σ5 hp => ?_)
          obtain ⟨rfl, k6, k7, k8, k9, k10⟩ := hp
          refine q_aload_n d_Mo_divisor_69 rfl ?_
          refine q_bipush d_Mo_divisor_70 (by decide) ?_
          refine q_bipush d_Mo_divisor_72 (by decide) ?_
          refine q_callV (As := [vi 6, vi 7]) (c_Mo_copyPoly l K (p := 6) (i := 7) (n := r) (P := R2) ⟨hM0, hM1, hM2, hM3, hM4, hM5, hM6, hM7, hM8, hM9⟩ (by decide) (by decide) (by decide) (by omega) (by rw [k9 7 (by decide)]; exact k1) (fun k hk => (k2 k hk).mv (k8 _ (by omega)))) w_cd_Mo_copyPoly w_ini_Mo w_ml_Mo_89 w_im_Mo_copyPoly w_se_Mo_copyPoly (by assumption) rfl hd_Mo_copyPoly rfl (Nat.le_of_ble_eq_true rfl) d_Mo_divisor_74 (by decide) (by decide) (fun v σ6 hp => ?_)
          obtain ⟨rfl, k11, k12, k13, k14, k15⟩ := hp
          refine q_goto (tgt := 24) d_Mo_divisor_77 (by decide) ?_
          exact ih (s + 1) σ6 C R2 c r (by rw [hst1, hR2]) hc9 (by omega) hc1 (by omega) hlC g9 (by rw [k14 5 (by decide)]; exact k6) (fun k hk => (k7 k hk).mv (k13 _ (by omega))) k11 k12 (fun x h1 h2 => (((g5 x h1 h2).trans (k3 x (by omega))).trans (k8 x (by omega))).trans (k13 x (by omega))) (fun j h1 h2 h3 => by rw [k14 j h2, k9 j h1, k4 j h3]; exact g6 j h1 h2 h3) (fun q h1 h2 h3 h4 h5 => by rw [k15 q h1 h2 h3 h4, k10 q h1 h2 h3 h4, k5 q h1 h2 h3 h4]; exact g7 q h1 h2 h3 h4 h5)
        refine q_aload_n d_Mo_divisor_34 rfl ?_
        refine q_iconst d_Mo_divisor_35 rfl ?_
        refine q_bipush d_Mo_divisor_36 (by decide) ?_
        refine q_callV (As := [vi 5, vi 6]) (c_Mo_remainder l K (p := 5) (i := 6) (n0 := a) (b := c) (u := u) (v := v) (P := A) (Q := C) ⟨hM0, hM1, hM2, hM3, hM4, hM5, hM6, hM7, hM8, hM9⟩ (by decide) (by decide) (by decide) ha9 hc1 hc9 f2 f4 f3 f5 (fun t k hk => x3 hc1 t k hk) x2 huv) w_cd_Mo_remainder w_ini_Mo w_ml_Mo_96 w_im_Mo_remainder w_se_Mo_remainder (by assumption) rfl hd_Mo_remainder rfl (Nat.le_of_ble_eq_true rfl) d_Mo_divisor_38 (by decide) (by decide) (fun v σ2 hp => ?_)
        obtain ⟨rfl, t, j1, j2, j3, j4, j5, j6⟩ := hp
        rw [rsf_eq hc1 j1] at j2 j3
        have hle := rst_lead (Q := C) (b := c) (P := A) (n := a) (fun _ => hla) a
        have x3' := x3 hc1 a
        rw [show rst C c A a a = rsf C c A a from rfl] at hle x3'
        refine q_aload_n d_Mo_divisor_41 rfl ?_
        refine q_gr (by assumption) pc_Mo 4 (by decide) w_fl_Mo_20 rfl (by rfl) d_Mo_divisor_42 ?_
        refine q_iconst d_Mo_divisor_45 rfl ?_
        refine q_ial (5) (by assumption) (by omega) (by omega) (by omega) d_Mo_divisor_46 ?_
        refine q_topi j2 ?_
        refine q_if_lt (tgt := 55) (by omega) d_Mo_divisor_47 (by decide) (fun cr => ?_) (fun cr => ?_)
        · exact tail σ2 (rsf C c A a).2 (prm (rsf C c A a).1 (rsf C c A a).2) rfl hrl j2 (fun k hk => by omega) ((j5 6 (by decide)).trans f4) (fun k hk => (f5 k hk).mv (j4 _ (by omega) (by omega) (by omega))) (fun x h1 h2 => (f6 x h1 h2).trans (j4 x (by omega) (by omega) (by omega))) (fun j h1 h2 h3 => (j5 j h1).trans (f7 j h1 h2 h3)) (fun q h1 h2 h3 h4 h5 => (j6 q h1 h2 h3 h4 h5).trans (f8 q h1 h2 h3 h4 h5)) (fun h => by omega)
        · refine q_aload_n d_Mo_divisor_50 rfl ?_
          refine q_iconst d_Mo_divisor_51 rfl ?_
          refine q_callV (As := [vi 5]) (c_Mo_primitive l K (p := 5) (n := (rsf C c A a).2) (P := (rsf C c A a).1) ⟨hM0, hM1, hM2, hM3, hM4, hM5, hM6, hM7, hM8, hM9⟩ (by decide) (by omega) (by omega) j2 j3 (hle (by omega)) (fun k hk => by have := x3' k hk; have := ip_le (B := 65536) (by decide) (show u ≤ 1023 by omega); omega)) w_cd_Mo_primitive w_ini_Mo w_ml_Mo_92 w_im_Mo_primitive w_se_Mo_primitive (by assumption) rfl hd_Mo_primitive rfl (Nat.le_of_ble_eq_true rfl) d_Mo_divisor_52 (by decide) (by decide) (fun v σ3 hp => ?_)
          obtain ⟨rfl, k1, k2, k3⟩ := hp
          exact tail σ3 (rsf C c A a).2 (prm (rsf C c A a).1 (rsf C c A a).2) rfl hrl (by rw [k2 _ (by omega) (by omega) (by omega) (by omega)]; exact j2) k1 (by rw [k2 _ (by omega) (by omega) (by omega) (by omega)]; exact (j5 6 (by decide)).trans f4) (fun k hk => ((f5 k hk).mv (j4 _ (by omega) (by omega) (by omega))).mv (k3 _ (by omega) (by omega))) (fun x h1 h2 => ((f6 x h1 h2).trans (j4 x (by omega) (by omega) (by omega))).trans (k3 x (by omega) (by omega))) (fun j h1 h2 h3 => by rw [k2 _ (by omega) (by omega) (by omega) (by omega)]; exact (j5 j h1).trans (f7 j h1 h2 h3)) (fun q h1 h2 h3 h4 h5 => by rw [k2 q h1 h2 h3 h5]; exact (j6 q h1 h2 h3 h4 h5).trans (f8 q h1 h2 h3 h4 h5)) (fun h => prm_ne h (hle (by omega)))
  refine q_aload_n d_Mo_divisor_0 rfl ?_
  refine q_iconst d_Mo_divisor_1 rfl ?_
  refine q_iload_n d_Mo_divisor_2 rfl ?_
  refine q_callV (As := [vi 5, vi p]) (c_Mo_copyPoly l K (p := 5) (i := p) (n := n) (P := P) ⟨hM0, hM1, hM2, hM3, hM4, hM5, hM6, hM7, hM8, hM9⟩ (by decide) hp (by omega) hn9 hdp hP) w_cd_Mo_copyPoly w_ini_Mo w_ml_Mo_89 w_im_Mo_copyPoly w_se_Mo_copyPoly (by assumption) rfl hd_Mo_copyPoly rfl (Nat.le_of_ble_eq_true rfl) d_Mo_divisor_3 (by decide) (by decide) (fun v σ1 hp => ?_)
  obtain ⟨rfl, k1, k2, k3, k4, k5⟩ := hp
  refine q_aload_n d_Mo_divisor_6 rfl ?_
  refine q_bipush d_Mo_divisor_7 (by decide) ?_
  refine q_iload_n d_Mo_divisor_9 rfl ?_
  refine q_callV (As := [vi 6, vi i]) (c_Mo_copyPoly l K (p := 6) (i := i) (n := b) (P := Q) ⟨hM0, hM1, hM2, hM3, hM4, hM5, hM6, hM7, hM8, hM9⟩ (by decide) hi (by omega) hb9 (by rw [k4 i (by omega)]; exact hdq) (fun k hk => (hQ k hk).mv (k3 _ (by omega)))) w_cd_Mo_copyPoly w_ini_Mo w_ml_Mo_89 w_im_Mo_copyPoly w_se_Mo_copyPoly (by assumption) rfl hd_Mo_copyPoly rfl (Nat.le_of_ble_eq_true rfl) d_Mo_divisor_10 (by decide) (by decide) (fun v σ2 hp => ?_)
  obtain ⟨rfl, k6, k7, k8, k9, k10⟩ := hp
  refine q_aload_n d_Mo_divisor_13 rfl ?_
  refine q_iconst d_Mo_divisor_14 rfl ?_
  refine q_callV (As := [vi 5]) (c_Mo_primitive l K (p := 5) (n := n) (P := P) ⟨hM0, hM1, hM2, hM3, hM4, hM5, hM6, hM7, hM8, hM9⟩ (by decide) hn9 hn1 (by rw [k9 5 (by decide)]; exact k1) (fun k hk => (k2 k hk).mv (k8 _ (by omega))) hlP hPb) w_cd_Mo_primitive w_ini_Mo w_ml_Mo_92 w_im_Mo_primitive w_se_Mo_primitive (by assumption) rfl hd_Mo_primitive rfl (Nat.le_of_ble_eq_true rfl) d_Mo_divisor_15 (by decide) (by decide) (fun v σ3 hp => ?_)
  obtain ⟨rfl, k11, k12, k13⟩ := hp
  refine q_aload_n d_Mo_divisor_18 rfl ?_
  refine q_bipush d_Mo_divisor_19 (by decide) ?_
  refine q_callV (As := [vi 6]) (c_Mo_primitive l K (p := 6) (n := b) (P := Q) ⟨hM0, hM1, hM2, hM3, hM4, hM5, hM6, hM7, hM8, hM9⟩ (by decide) hb9 hb1 (by rw [k12 _ (by omega) (by omega) (by omega) (by omega)]; exact k6) (fun k hk => (k7 k hk).mv (k13 _ (by omega) (by omega))) hlQ hQb) w_cd_Mo_primitive w_ini_Mo w_ml_Mo_92 w_im_Mo_primitive w_se_Mo_primitive (by assumption) rfl hd_Mo_primitive rfl (Nat.le_of_ble_eq_true rfl) d_Mo_divisor_21 (by decide) (by decide) (fun v σ4 hp => ?_)
  obtain ⟨rfl, k14, k15, k16⟩ := hp
  exact loop b 0 σ4 (prm P n) (prm Q b) n b rfl hn9 hb9 hn1 (Nat.le_refl _) (prm_ne hn1 hlP) (fun _ => prm_ne hb1 hlQ) (by rw [k15 _ (by omega) (by omega) (by omega) (by omega), k12 _ (by omega) (by omega) (by omega) (by omega), k9 5 (by decide)]; exact k1) (fun k hk => (k11 k hk).mv (k16 _ (by omega) (by omega))) (by rw [k15 _ (by omega) (by omega) (by omega) (by omega), k12 _ (by omega) (by omega) (by omega) (by omega)]; exact k6) k14 (fun r h1 h2 => ((((k3 r (by omega)).trans (k8 r (by omega))).trans (k13 r (by omega) (by omega))).trans (k16 r (by omega) (by omega)))) (fun j h1 h2 h3 => by rw [k15 _ (by omega) (by omega) (by omega) (by omega), k12 _ (by omega) (by omega) (by omega) (by omega), k9 j h2, k4 j h1]) (fun q h1 h2 h3 h4 h5 => by rw [k15 q h1 h2 h3 h5, k12 q h1 h2 h3 h5, k10 q h1 h2 h3 h4, k5 q h1 h2 h3 h4])
