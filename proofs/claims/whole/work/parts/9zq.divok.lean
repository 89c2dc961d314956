/-! THE REFERENCE'S DIVISOR: what it finds, and how large all is -/
theorem gn_abs {A B : Nat → Int} : ∀ n, (∀ k, k < n → (A k).natAbs = (B k).natAbs) → gn A n = gn B n
  | 0, _ => rfl
  | n + 1, h => by rw [gn, gn, gn_abs n (fun k hk => h k (by omega)), h n (by omega)]
theorem gn_smul (x : Int) (A : Nat → Int) : ∀ n, gn (fun c => x * A c) n = x.natAbs * gn A n
  | 0 => rfl
  | n + 1 => by rw [gn, gn, gn_smul x A n, Int.natAbs_mul, Nat.gcd_mul_left]
theorem gn1_dvd {A : Nat → Int} {n : Nat} (h : gn A n = 1) {x y : Int} (hd : ∀ c, c < n → y ∣ x * A c) : y ∣ x := by
  have h1 := gn_ldvd (P := fun c => x * A c) (l := y.natAbs) n (fun k hk => Int.natAbs_dvd_natAbs.2 (hd k hk))
  rw [gn_smul, h, Nat.mul_one] at h1
  exact Int.natAbs_dvd_natAbs.1 h1
/-- A, of a coefficients, is link s without the common divisor of its coefficients -/
def pq (G : Nat → Int) (e : Nat) (A : Nat → Int) (a : Nat) : Prop := a = e + 1 ∧ prp A G ∧ (∀ c, a ≤ c → A c = 0) ∧ gn A a = 1
theorem pq.mul {G A : Nat → Int} {e a : Nat} (h : pq G e A a) (hG : ∀ c, e < c → G c = 0) : ∃ k : Int, k ≠ 0 ∧ ∀ c, G c = k * A c := by
  obtain ⟨h1, ⟨x, y, hx, hy, e1⟩, h3, h4⟩ := h
  obtain ⟨k, hk⟩ := gn1_dvd h4 (x := x) (y := y) (fun c _ => ⟨G c, e1 c⟩)
  refine ⟨k, fun h0 => hx (by rw [hk, h0, Int.mul_zero]), fun c => ?_⟩
  have := e1 c
  rw [hk, Int.mul_assoc] at this
  exact (Int.eq_of_mul_eq_mul_left hy this).symm
theorem pq.le {G A : Nat → Int} {e a : Nat} (h : pq G e A a) (hG : ∀ c, e < c → G c = 0) (c : Nat) : (A c).natAbs ≤ (G c).natAbs := by
  obtain ⟨k, hk, e⟩ := h.mul hG
  rw [e c, Int.natAbs_mul]
  exact Nat.le_mul_of_pos_left _ (by omega)
theorem pq.lead {G A : Nat → Int} {e a : Nat} (h : pq G e A a) (hG : G e ≠ 0) : A (a - 1) ≠ 0 := fun h0 => hG (by
  have := h.2.1.z (a - 1) h0
  rw [h.1, Nat.add_sub_cancel] at this
  exact this)
theorem prm_prp {R : Nat → Int} {r : Nat} (hr : 1 ≤ r) (hl : R (r - 1) ≠ 0) (hz : ∀ c, r ≤ c → R c = 0) : prp (prm R r) R ∧ (∀ c, r ≤ c → prm R r c = 0) ∧ gn (prm R r) r = 1 := by
  obtain ⟨k, rfl⟩ : ∃ k, r = k + 1 := ⟨r - 1, by omega⟩
  rw [Nat.add_sub_cancel] at hl
  obtain ⟨g1, g2, g3⟩ := gn_ex hl
  have hs : (R k).sign.natAbs = 1 := by rw [Int.natAbs_sign, if_neg hl]
  have hs0 : (R k).sign ≠ 0 := by intro h; rw [h] at hs; exact absurd hs (by decide)
  have hpz : ∀ c, k + 1 ≤ c → prm R (k + 1) c = 0 := fun c hc => by unfold prm; rw [hz c hc, Int.zero_tdiv, Int.zero_mul]
  refine ⟨⟨gn R (k + 1), (R k).sign, by omega, hs0, fun c => ?_⟩, hpz, ?_⟩
  · rcases Nat.lt_or_ge c (k + 1) with h | h
    · have := g2 c (by omega)
      unfold prm
      rw [Nat.add_sub_cancel, ← Int.mul_assoc, ← this, Int.mul_comm]
    · rw [hpz c h, hz c h, Int.mul_zero, Int.mul_zero]
  · refine Eq.trans (gn_abs _ (fun j _ => ?_)) g3
    unfold prm
    rw [Nat.add_sub_cancel, Int.natAbs_mul, hs, Nat.mul_one]
theorem prm_pq {R G : Nat → Int} {r e : Nat} (h : prp R G) (hG : ∀ c, e < c → G c = 0) (hGe : G e ≠ 0) (hz : ∀ c, r ≤ c → R c = 0) (hl : 0 < r → R (r - 1) ≠ 0) : 1 ≤ r ∧ pq G e (prm R r) r := by
  have h1 : e < r := by
    rcases Nat.lt_or_ge e r with h2 | h2
    · exact h2
    · exact absurd (h.z e (hz e h2)) hGe
  have h2 : r = e + 1 := by
    rcases Nat.lt_or_ge (e + 1) r with h3 | h3
    · exact absurd (h.symm.z (r - 1) (hG _ (by omega))) (hl (by omega))
    · omega
  obtain ⟨a1, a2, a3⟩ := prm_prp (by omega) (hl (by omega)) hz
  exact ⟨by omega, h2, a1.trans h, a2, a3⟩
theorem dst_pq {P Q : Nat → Int} {n m f g M : Nat} {F : Nat → Nat → Int} {d : Nat → Nat} (hM : 1 ≤ M) (e0 : F 0 = P) (e1 : F 1 = Q) (d0 : d 0 = n) (d1 : d 1 = m) (h : chs F d f g M) : ∀ s, s ≤ M → pq (F s) (d s) (dst P Q (n + 1) (m + 1) s).1.1 (dst P Q (n + 1) (m + 1) s).1.2 ∧ (s < M → pq (F (s + 1)) (d (s + 1)) (dst P Q (n + 1) (m + 1) s).2.1 (dst P Q (n + 1) (m + 1) s).2.2) ∧ (s = M → (dst P Q (n + 1) (m + 1) s).2.2 = 0) := by
  obtain ⟨sc, ht, hc, hend⟩ := h
  have hz := hc.1
  intro s
  induction s with
  | zero =>
    intro _
    have a0 := hz 0 (by omega)
    have a1 := hz 1 hM
    refine ⟨(prm_pq (R := P) (r := n + 1) ⟨1, 1, by decide, by decide, fun c => by rw [e0]⟩ a0.1 a0.2 (fun c hc' => by rw [← e0]; exact a0.1 c (by omega)) (fun _ => by rw [Nat.add_sub_cancel, ← e0, ← d0]; exact a0.2)).2, fun _ => (prm_pq (R := Q) (r := m + 1) ⟨1, 1, by decide, by decide, fun c => by rw [e1]⟩ a1.1 a1.2 (fun c hc' => by rw [← e1]; exact a1.1 c (by omega)) (fun _ => by rw [Nat.add_sub_cancel, ← e1, ← d1]; exact a1.2)).2, fun h => by omega⟩
  | succ s ih =>
    intro hs
    obtain ⟨b1, b2, -⟩ := ih (by omega)
    have b2 := b2 (by omega)
    generalize hD : dst P Q (n + 1) (m + 1) s = D at *
    obtain ⟨⟨A, a⟩, ⟨C, c⟩⟩ := D
    simp only at b1 b2
    have hc1 : 1 ≤ c := by have := b2.1; omega
    rw [dst_s hD hc1]
    have hs0 := hz s (by omega)
    have hs1 := hz (s + 1) hs
    have hcl := b2.lead hs1.2
    have hal := b1.lead hs0.2
    obtain ⟨r1, r2⟩ := rst_rr (P := A) (n := a) hc1 b2.2.2.1 hcl b1.2.2.1 a
    have r3 := rsf_lt (Q := C) (b := c) (P := A) (n := a) hc1
    have r4 := rst_lead (Q := C) (b := c) (P := A) (n := a) (fun _ => hal) a
    have er : rst C c A a a = rsf C c A a := rfl
    rw [er] at r1 r2 r4
    generalize rsf C c A a = RR at *
    obtain ⟨R, r⟩ := RR
    simp only at r1 r2 r3 r4 ⊢
    refine ⟨b2, fun hlt => ?_, fun heq => ?_⟩
    · obtain ⟨k, hk, q1⟩ := r1.prp b1.2.1 b2.2.1
      obtain ⟨α, β, K, ha, hb, e⟩ := hc.2.2.2.1 s (by omega)
      have q2 : rr (F s) (F (s + 1)) (fun c => -β * F (s + 2) c) := ⟨α, by omega, K, d s - d (s + 1) + 1, fun c => by have := e c; show α * F s c - -β * F (s + 2) c = _; rw [this, Int.neg_mul]; omega⟩
      have hs2 := hz (s + 2) (by omega)
      have hdd := hc.2.2.1 (s + 1) (by omega) (by omega)
      have hdd : d (s + 2) < d (s + 1) := hdd
      have q3 := rr.uniq hs1.1 hs1.2 q1 q2 (fun c' hc' => by show k * R c' = 0; rw [r2 c' (by have := b2.1; omega), Int.mul_zero]) (fun c' hc' => by show -β * F (s + 2) c' = 0; rw [hs2.1 c' (by omega), Int.mul_zero])
      exact (prm_pq (((prp_k hk).symm.trans q3).trans (prp_k (by omega))) hs2.1 hs2.2 r2 r4).2
    · rcases hend with h0 | h0
      · have := b2.1
        rw [heq] at this
        omega
      · rcases Nat.eq_zero_or_pos r with h5 | h5
        · exact h5
        · exfalso
          obtain ⟨k, hk, q1⟩ := r1.prp b1.2.1 b2.2.1
          have hba := (cin_ba hc hM).1
          obtain ⟨K, hK⟩ := lw_rel (U := F (M - 1)) (V := F M) hba _ (Nat.le_refl _)
          have q2 : rr (F s) (F (s + 1)) (fun _ => 0) := by
            rw [heq, show s = M - 1 by omega]
            refine ⟨((F M (d M)).natAbs : Int) ^ (d (M - 1) - d M + 1), ?_, K, d (M - 1) - d M + 1, fun c => ?_⟩
            · have := ip_pos (B := ((F M (d M)).natAbs : Int)) (by have := (hz M (Nat.le_refl _)).2; omega) (d (M - 1) - d M + 1)
              omega
            · show _ * _ - 0 = _
              rw [hK c, h0 c]; omega
          have q3 := rr.uniq hs1.1 hs1.2 q1 q2 (fun c' hc' => by show k * R c' = 0; rw [r2 c' (by have := b2.1; omega), Int.mul_zero]) (fun c' _ => rfl)
          have q4 := q3.symm.z (r - 1) rfl
          rcases Int.mul_eq_zero.1 q4 with h6 | h6
          · exact hk h6
          · exact r4 h5 h6
theorem dst_stop {P Q : Nat → Int} {n b s : Nat} (h : (dst P Q n b s).2.2 = 0) : ∀ t, dst P Q n b (s + t) = dst P Q n b s
  | 0 => rfl
  | t + 1 => by
    show dst P Q n b (s + t + 1) = _
    rw [dst, dst_stop h t, if_pos h]
theorem chs_832 {F : Nat → Nat → Int} {d : Nat → Nat} {M : Nat} (h : chs F d 52 52 M) (h8 : d 0 ≤ 8) : ∀ k, k ≤ M → d k ≤ 8 ∧ ∀ c, (F k c).natAbs ≤ 2 ^ 832 := by
  obtain ⟨sc, ht, hc, -⟩ := h
  intro k hk
  have hd1 := hc.2.1
  rcases Nat.eq_zero_or_pos k with e | e
  · subst e
    exact ⟨h8, fun c => Nat.le_trans (l1_all (hc.1 0 (by omega)).1 hc.2.2.2.2.2.2.2.2.2.1 c) (Nat.pow_le_pow_right (by omega) (by omega))⟩
  · have := cin_deg hc k e hk
    refine ⟨by omega, fun c => ?_⟩
    rcases Nat.lt_or_ge 1 k with e2 | e2
    · have h1 := hc.2.2.2.2.2.2.2.2.2.2.2.1 k e2 hk c
      refine Nat.le_trans h1 (Nat.pow_le_pow_right (by omega) ?_)
      unfold bt
      have a1 : (d 1 - (d (k - 1) - 1)) * 52 ≤ 8 * 52 := Nat.mul_le_mul_right _ (by omega)
      have a2 : (d 0 - (d (k - 1) - 1)) * 52 ≤ 8 * 52 := Nat.mul_le_mul_right _ (by omega)
      omega
    · rw [show k = 1 by omega]
      exact Nat.le_trans (l1_all (hc.1 1 (by omega)).1 hc.2.2.2.2.2.2.2.2.2.2.1 c) (Nat.pow_le_pow_right (by omega) (by omega))
theorem lh16 {z : Int} {x v : Nat} (h : z.natAbs ≤ 2 ^ x) (hv : x / 16 + 1 ≤ v) : (z.natAbs : Int) < 65536 ^ v := by
  have h1 : (2 : Nat) ^ x < 65536 ^ v := by
    rw [show (65536 : Nat) = 2 ^ 16 from rfl, ← Nat.pow_mul]
    exact Nat.pow_lt_pow_right (by omega) (by omega)
  have h2 := Int.ofNat_lt.2 (Nat.lt_of_le_of_lt h h1)
  rw [Int.natCast_pow] at h2
  exact h2
/-- all that the way to the divisor needs, and what it ends with -/
theorem dst_ok {P Q : Nat → Int} {n m M : Nat} {F : Nat → Nat → Int} {d : Nat → Nat} (hM : 1 ≤ M) (e0 : F 0 = P) (e1 : F 1 = Q) (d0 : d 0 = n) (d1 : d 1 = m) (h : chs F d 52 52 M) (h8 : n ≤ 8) : (∀ s, (∀ k, k < (dst P Q (n + 1) (m + 1) s).1.2 → (((dst P Q (n + 1) (m + 1) s).1.1 k).natAbs : Int) < 65536 ^ 53) ∧ (∀ k, k < (dst P Q (n + 1) (m + 1) s).2.2 → (((dst P Q (n + 1) (m + 1) s).2.1 k).natAbs : Int) < 65536 ^ 53) ∧ (1 ≤ (dst P Q (n + 1) (m + 1) s).2.2 → ∀ t k, k < (rst (dst P Q (n + 1) (m + 1) s).2.1 (dst P Q (n + 1) (m + 1) s).2.2 (dst P Q (n + 1) (m + 1) s).1.1 (dst P Q (n + 1) (m + 1) s).1.2 t).2 → (((rst (dst P Q (n + 1) (m + 1) s).2.1 (dst P Q (n + 1) (m + 1) s).2.2 (dst P Q (n + 1) (m + 1) s).1.1 (dst P Q (n + 1) (m + 1) s).1.2 t).1 k).natAbs : Int) < 65536 ^ 521)) ∧ ∀ s, (dst P Q (n + 1) (m + 1) s).2.2 = 0 → pq (F M) (d M) (dst P Q (n + 1) (m + 1) s).1.1 (dst P Q (n + 1) (m + 1) s).1.2 := by
  have hb := chs_832 h (by omega)
  have hp := dst_pq hM e0 e1 d0 d1 h
  obtain ⟨sc, ht, hc, -⟩ := h
  have hz := hc.1
  have hM0 := (hp M (Nat.le_refl _)).2.2 rfl
  have hge : ∀ s, M ≤ s → dst P Q (n + 1) (m + 1) s = dst P Q (n + 1) (m + 1) M := fun s hs => by
    rw [show s = M + (s - M) by omega]; exact dst_stop hM0 _
  have main : ∀ s, s ≤ M → (∀ k, (((dst P Q (n + 1) (m + 1) s).1.1 k).natAbs ≤ 2 ^ 832)) ∧ (dst P Q (n + 1) (m + 1) s).1.2 ≤ 9 ∧ (1 ≤ (dst P Q (n + 1) (m + 1) s).2.2 → ∀ k, (((dst P Q (n + 1) (m + 1) s).2.1 k).natAbs ≤ 2 ^ 832)) := fun s hs => by
    obtain ⟨p1, p2, p3⟩ := hp s hs
    refine ⟨fun k => Nat.le_trans (p1.le (hz s hs).1 k) ((hb s hs).2 k), by have := p1.1; have := (hb s hs).1; omega, fun h1 k => ?_⟩
    rcases Nat.lt_or_ge s M with h2 | h2
    · exact Nat.le_trans ((p2 h2).le (hz (s + 1) h2).1 k) ((hb (s + 1) h2).2 k)
    · have := p3 (by omega); omega
  have main2 : ∀ s, (∀ k, (((dst P Q (n + 1) (m + 1) s).1.1 k).natAbs ≤ 2 ^ 832)) ∧ (dst P Q (n + 1) (m + 1) s).1.2 ≤ 9 ∧ (1 ≤ (dst P Q (n + 1) (m + 1) s).2.2 → ∀ k, (((dst P Q (n + 1) (m + 1) s).2.1 k).natAbs ≤ 2 ^ 832)) := fun s => by
    rcases Nat.lt_or_ge s M with h2 | h2
    · exact main s (by omega)
    · rw [hge s h2]; exact main M (Nat.le_refl _)
  refine ⟨fun s => ?_, fun s hs => ?_⟩
  · obtain ⟨x1, x2, x3⟩ := main2 s
    refine ⟨fun k _ => lh16 (x1 k) (by decide), fun k hk => lh16 (x3 (by omega) k) (by decide), fun h1 t k _ => ?_⟩
    have y1 := rst_bd (n := (dst P Q (n + 1) (m + 1) s).1.2) h1 x1 (x3 h1) t
    refine lh16 (x := 8329) (Nat.le_trans (y1.2 k) (Nat.pow_le_pow_right (by omega) ?_)) (by decide)
    have : ((dst P Q (n + 1) (m + 1) s).1.2 - (rst (dst P Q (n + 1) (m + 1) s).2.1 (dst P Q (n + 1) (m + 1) s).2.2 (dst P Q (n + 1) (m + 1) s).1.1 (dst P Q (n + 1) (m + 1) s).1.2 t).2) * (832 + 1) ≤ 9 * (832 + 1) := Nat.mul_le_mul_right _ (by omega)
    omega
  · rcases Nat.lt_or_ge s M with h2 | h2
    · have := ((hp s (by omega)).2.1 h2).1; omega
    · rw [hge s h2]; exact (hp M (Nat.le_refl _)).1
