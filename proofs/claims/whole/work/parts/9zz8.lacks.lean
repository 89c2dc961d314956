/-! THE REFERENCE: lacks; the divisor where the first is of the lower degree -/
theorem prm_id {A : Nat → Int} {a : Nat} (h1 : 1 ≤ a) (hg : gn A a = 1) (hp : 0 < A (a - 1)) : ∀ k, prm A a k = A k := fun k => by
  unfold prm
  rw [hg, Int.sign_eq_one_of_pos hp, Int.mul_one]
  show (A k).tdiv 1 = A k
  rw [Int.tdiv_one]
theorem rsf_low {Q : Nat → Int} {b : Nat} {P : Nat → Int} {n : Nat} (h : n < b) : rsf Q b P n = (P, n) := by
  have : ∀ t, rst Q b P n t = (P, n) := fun t => by
    induction t with
    | zero => rfl
    | succ t ih => rw [rst, ih, if_pos h]
  exact this n
theorem prm_lead {P : Nat → Int} {n : Nat} (hn : 1 ≤ n) (hl : P (n - 1) ≠ 0) : 0 < prm P n (n - 1) := by
  have hg : 0 < gn P n := gn_pos (k := n) (i := n - 1) (by omega) hl
  obtain ⟨c, hc⟩ := Int.ofNat_dvd_left.2 (gn_dvd (P := P) n (n - 1) (by omega))
  unfold prm
  rw [hc, Int.mul_tdiv_cancel_left _ (by omega), Int.sign_mul, Int.sign_eq_one_of_pos (show (0 : Int) < (gn P n : Int) by omega), Int.one_mul, Int.mul_sign_self]
  have : c ≠ 0 := fun h => hl (by rw [hc, h, Int.mul_zero])
  omega
/-- the first step only turns the two around -/
theorem dst_swap {P Q : Nat → Int} {n b : Nat} (hn : 1 ≤ n) (hnb : n < b) (hlP : P (n - 1) ≠ 0) (hzP : ∀ c, n ≤ c → P c = 0) : ∀ s, dst P Q n b (s + 1) = dst Q P b n s
  | 0 => by
    rw [dst_s (P := P) (Q := Q) (n := n) (b := b) (s := 0) rfl (by omega), rsf_low hnb]
    show ((prm Q b, b), (prm (prm P n) n, n)) = ((prm Q b, b), (prm P n, n))
    rw [show prm (prm P n) n = prm P n from funext (prm_id hn (prm_prp hn hlP hzP).2.2 (prm_lead hn hlP))]
  | s + 1 => by
    rw [dst, dst_swap hn hnb hlP hzP s]
    rfl
/-- all numbers on the divisor's way fit -/
def dsB (P Q : Nat → Int) (n b : Nat) : Prop := ∀ s, (∀ k, k < (dst P Q n b s).1.2 → (((dst P Q n b s).1.1 k).natAbs : Int) < 65536 ^ 53) ∧ (∀ k, k < (dst P Q n b s).2.2 → (((dst P Q n b s).2.1 k).natAbs : Int) < 65536 ^ 53) ∧ (1 ≤ (dst P Q n b s).2.2 → ∀ t k, k < (rst (dst P Q n b s).2.1 (dst P Q n b s).2.2 (dst P Q n b s).1.1 (dst P Q n b s).1.2 t).2 → (((rst (dst P Q n b s).2.1 (dst P Q n b s).2.2 (dst P Q n b s).1.1 (dst P Q n b s).1.2 t).1 k).natAbs : Int) < 65536 ^ 521)
theorem prm_le {P : Nat → Int} {n : Nat} (hn : 1 ≤ n) (hl : P (n - 1) ≠ 0) (hz : ∀ c, n ≤ c → P c = 0) (c : Nat) : (prm P n c).natAbs ≤ (P c).natAbs := by
  obtain ⟨k, rfl⟩ : ∃ k, n = k + 1 := ⟨n - 1, by omega⟩
  have h := prm_pq (R := P) (G := P) (r := k + 1) (e := k) ⟨1, 1, by decide, by decide, fun _ => rfl⟩ (fun c hc => hz c (by omega)) hl hz (fun _ => hl)
  exact h.2.le (fun c hc => hz c (by omega)) c
theorem dst_any {P Q : Nat → Int} {n m : Nat} (hP : ∀ c, n < c → P c = 0) (hQ : ∀ c, m < c → Q c = 0) (n0 : P n ≠ 0) (m0 : Q m ≠ 0) (hn8 : n ≤ 8) (hm8 : m ≤ 8) (lP : l1 P (n + 1) ≤ 2 ^ 52) (lQ : l1 Q (m + 1) ≤ 2 ^ 52) : ∃ (M : Nat) (F : Nat → Nat → Int) (d : Nat → Nat), 1 ≤ M ∧ chs F d 52 52 M ∧ ((m ≤ n ∧ F 0 = P ∧ F 1 = Q ∧ d 0 = n ∧ d 1 = m) ∨ (n < m ∧ F 0 = Q ∧ F 1 = P ∧ d 0 = m ∧ d 1 = n)) ∧ dsB P Q (n + 1) (m + 1) ∧ ∀ s, (dst P Q (n + 1) (m + 1) s).2.2 = 0 → pq (F M) (d M) (dst P Q (n + 1) (m + 1) s).1.1 (dst P Q (n + 1) (m + 1) s).1.2 := by
  rcases Nat.lt_or_ge n m with h | h
  · obtain ⟨M, F, d, hM, e0, e1, d0, d1, hc⟩ := chs_ex (f := 52) (g := 52) hQ hP m0 n0 (by omega) lQ lP
    obtain ⟨hB, hfin⟩ := dst_ok hM e0 e1 d0 d1 hc hm8
    have sw := dst_swap (P := P) (Q := Q) (n := n + 1) (b := m + 1) (by omega) (by omega) n0 (fun c hc => hP c (by omega))
    refine ⟨M, F, d, hM, hc, Or.inr ⟨h, e0, e1, d0, d1⟩, fun s => ?_, fun s hs => ?_⟩
    · rcases Nat.eq_zero_or_pos s with e | e
      · subst e
        have bP : ∀ c, (prm P (n + 1) c).natAbs ≤ 2 ^ 52 := fun c => Nat.le_trans (prm_le (by omega) n0 (fun c hc => hP c (by omega)) c) (l1_all hP lP c)
        have bQ : ∀ c, (prm Q (m + 1) c).natAbs ≤ 2 ^ 52 := fun c => Nat.le_trans (prm_le (by omega) m0 (fun c hc => hQ c (by omega)) c) (l1_all hQ lQ c)
        refine ⟨fun k _ => lh16 (bP k) (by decide), fun k _ => lh16 (bQ k) (by decide), fun _ t k _ => ?_⟩
        have : ∀ t, rst (prm Q (m + 1)) (m + 1) (prm P (n + 1)) (n + 1) t = (prm P (n + 1), n + 1) := fun t => by
          induction t with
          | zero => rfl
          | succ t ih => rw [rst, ih, if_pos (by show n + 1 < m + 1; omega)]
        show (((rst (prm Q (m + 1)) (m + 1) (prm P (n + 1)) (n + 1) t).1 k).natAbs : Int) < _
        rw [this t]
        exact lh16 (bP k) (by decide)
      · obtain ⟨r, rfl⟩ : ∃ r, s = r + 1 := ⟨s - 1, by omega⟩
        rw [sw r]
        exact hB r
    · rcases Nat.eq_zero_or_pos s with e | e
      · subst e
        have hs : m + 1 = 0 := hs
        omega
      · obtain ⟨r, rfl⟩ : ∃ r, s = r + 1 := ⟨s - 1, by omega⟩
        rw [sw r] at hs ⊢
        exact hfin r hs
  · obtain ⟨M, F, d, hM, e0, e1, d0, d1, hc⟩ := chs_ex (f := 52) (g := 52) hP hQ n0 m0 h lP lQ
    obtain ⟨hB, hfin⟩ := dst_ok hM e0 e1 d0 d1 hc hn8
    exact ⟨M, F, d, hM, hc, Or.inl ⟨h, e0, e1, d0, d1⟩, hB, hfin⟩
set_option maxHeartbeats 4000000 in
set_option maxRecDepth 100000 in
theorem c_Mo_lacks1 (l : Launch) (K : pw_K) {L : q_L} {σ : q_S} {m n n2 : Nat} {c : Int} (hL : mL L m) (hd : σ (m + 4) 0 = (n : Int)) (hd2 : σ (m + 4) 1 = (n2 : Int)) (hn : n ≤ 8) (hn2 : n2 ≤ 8) : q_C l K L y_Mo_lacks b_Mo_lacks 2 (some .boolean) 1 [.ref m, vi c] σ (fun r σ' => r = some (vi 0) ∧ σ' = q_up σ m 0 0) := by
  have hLL := hL
  obtain ⟨hM0, hM1, hM2, hM3, hM4, hM5, hM6, hM7, hM8, hM9⟩ := hL
  refine q_start [some (.ref m), some (vi c)] (by decide) (Nat.le_of_ble_eq_true rfl) (fun q h => h) ?_
  refine q_aload_n d_Mo_lacks_0 rfl ?_
  refine q_aload_n d_Mo_lacks_1 rfl ?_
  refine q_gr hM0 pc_Mo 4 (by decide) w_fl_Mo_20 rfl (by rfl) d_Mo_lacks_2 ?_
  refine q_iconst d_Mo_lacks_5 rfl ?_
  refine q_ial (0) (by assumption) (by omega) (by omega) (by omega) d_Mo_lacks_6 ?_
  refine q_topi hd ?_
  refine q_if_lt (tgt := 19) (by omega) d_Mo_lacks_7 (by decide) (fun c7 => absurd c7 (by omega)) (fun c7 => ?_)
  refine q_aload_n d_Mo_lacks_10 rfl ?_
  refine q_gr hM0 pc_Mo 4 (by decide) w_fl_Mo_20 rfl (by rfl) d_Mo_lacks_11 ?_
  refine q_iconst d_Mo_lacks_14 rfl ?_
  refine q_ial (1) (by assumption) (by omega) (by omega) (by omega) d_Mo_lacks_15 ?_
  refine q_topi hd2 ?_
  refine q_if_ge (tgt := 23) (by omega) d_Mo_lacks_16 (by decide) (fun c16 => ?_) (fun c16 => absurd c16 (by omega))
  refine q_iconst d_Mo_lacks_23 rfl ?_
  refine q_iload_n d_Mo_lacks_24 rfl ?_
  refine q_callV (As := [vi 0, vi c]) (q_Mo_fails0 l K _ hLL) w_cd_Mo_fails w_ini_Mo w_ml_Mo_146 w_im_Mo_fails w_se_Mo_fails hM0 rfl hd_Mo_fails rfl (Nat.le_of_ble_eq_true rfl) d_Mo_lacks_25 (by decide) (by decide) (fun v σ9 hp => ?_)
  obtain ⟨rfl, hσ⟩ := hp
  rw [hσ]
  clear hσ σ9
  exact q_zret rfl (by omega) (⟨rfl, rfl⟩) d_Mo_lacks_28
