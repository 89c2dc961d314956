/-! THE REFERENCE: isolates, the walk over the cells -/
/-- the part without repeated factors lies in its rows -/
def mq (σ : q_S) (m p : Nat) (F : Nat → Nat → Int) (d : Nat → Nat) : Prop := σ (m + 4) (2 + p) = (d 0 : Int) ∧ ∀ k, k ≤ d 0 → rV σ m (9 * (2 + p) + k) (F 0 k)
/-- root i's cell, as it is kept -/
def kcl (σ : q_S) (m p i : Nat) (F : Nat → Nat → Int) (d : Nat → Nat) (M lo hi : Nat) : Prop := ∃ (C : Int) (j : Nat) (x : Int), rV σ m (140 + 8 * p + i) C ∧ σ (m + 5) (8 * p + i) = (j : Int) ∧ σ (m + 6) (8 * p + i) = x ∧ rce (lk F d 0) (cN F d M) (i : Int) C j x ∧ lo ≤ j ∧ j ≤ hi
/-- what isolates leaves alone -/
def isoF (σ σ' : q_S) (m p : Nat) : Prop := (∀ q, q ≠ m + 1 → q ≠ m + 2 → q ≠ m + 3 → q ≠ m + 4 → q ≠ m + 5 → q ≠ m + 6 → q ≠ m + 7 → q ≠ m + 9 → σ' q = σ q) ∧ (∀ r, (r < 9 * (2 + p) ∨ 9 * (2 + p) + 9 ≤ r) → (r < 36 ∨ 72 ≤ r) → (r < 96 ∨ 140 ≤ r) → (r < 140 + 8 * p ∨ 148 + 8 * p ≤ r) → rE σ σ' m r) ∧ (∀ j, j ≠ 2 + p → (j < 4 ∨ 7 < j) → σ' (m + 4) j = σ (m + 4) j) ∧ (∀ k, (k < 8 * p ∨ 8 * p + 8 ≤ k) → σ' (m + 5) k = σ (m + 5) k ∧ σ' (m + 6) k = σ (m + 6) k) ∧ ∀ k, k ≠ p → σ' (m + 7) k = σ (m + 7) k
theorem isoF.rfl {σ : q_S} {m p : Nat} : isoF σ σ m p := ⟨fun _ _ _ _ _ _ _ _ _ => Eq.refl _, fun _ _ _ _ _ => rE.rfl, fun _ _ _ => Eq.refl _, fun _ _ => ⟨Eq.refl _, Eq.refl _⟩, fun _ _ => Eq.refl _⟩
theorem isoF.trans {σ σ1 σ2 : q_S} {m p : Nat} (h : isoF σ σ1 m p) (g : isoF σ1 σ2 m p) : isoF σ σ2 m p := ⟨fun q a1 a2 a3 a4 a5 a6 a7 a8 => (g.1 q a1 a2 a3 a4 a5 a6 a7 a8).trans (h.1 q a1 a2 a3 a4 a5 a6 a7 a8), fun r a1 a2 a3 a4 => (h.2.1 r a1 a2 a3 a4).trans (g.2.1 r a1 a2 a3 a4), fun j a1 a2 => (g.2.2.1 j a1 a2).trans (h.2.2.1 j a1 a2), fun k a1 => ⟨(g.2.2.2.1 k a1).1.trans (h.2.2.2.1 k a1).1, (g.2.2.2.1 k a1).2.trans (h.2.2.2.1 k a1).2⟩, fun k a1 => (g.2.2.2.2 k a1).trans (h.2.2.2.2 k a1)⟩
/-- only scratch rows changed -/
def scr (σ σ' : q_S) (m : Nat) : Prop := rO σ σ' m ∧ ∀ r, (r < 96 ∨ 140 ≤ r) → rE σ σ' m r
theorem scr.iso {σ σ' : q_S} {m p : Nat} (h : scr σ σ' m) : isoF σ σ' m p := ⟨fun q a1 a2 a3 _ _ _ _ a8 => h.1 q a1 a2 a3 a8, fun r _ _ a3 _ => h.2 r a3, fun j _ _ => by rw [h.1 (m + 4) (by omega) (by omega) (by omega) (by omega)], fun k _ => ⟨by rw [h.1 (m + 5) (by omega) (by omega) (by omega) (by omega)], by rw [h.1 (m + 6) (by omega) (by omega) (by omega) (by omega)]⟩, fun k _ => by rw [h.1 (m + 7) (by omega) (by omega) (by omega) (by omega)]⟩
theorem mq.scr {σ σ' : q_S} {m p : Nat} {F : Nat → Nat → Int} {d : Nat → Nat} (h : mq σ m p F d) (hp : p < 2) (hd : d 0 ≤ 8) (g : scr σ σ' m) : mq σ' m p F d := ⟨by rw [g.1 (m + 4) (by omega) (by omega) (by omega) (by omega)]; exact h.1, fun k hk => (h.2 k hk).mv (g.2 _ (by omega))⟩
theorem kcl.scr {σ σ' : q_S} {m p i M lo hi : Nat} {F : Nat → Nat → Int} {d : Nat → Nat} (h : kcl σ m p i F d M lo hi) (g : scr σ σ' m) : kcl σ' m p i F d M lo hi := by
  obtain ⟨C, j, x, h1, h2, h3, h4⟩ := h
  exact ⟨C, j, x, h1.mv (g.2 _ (by omega)), by rw [g.1 (m + 5) (by omega) (by omega) (by omega) (by omega)]; exact h2, by rw [g.1 (m + 6) (by omega) (by omega) (by omega) (by omega)]; exact h3, h4⟩
/-- how far the walk is from its end -/
def ms (J : Nat) (C : Int) (j : Nat) : Int := (2 ^ J - C * 2 ^ (J - j)) * 1275 + (J - j)
def mz (J : Nat) (C : Int) (j : Nat) : Int := (2 ^ J - (C + 1) * 2 ^ (J - j)) * 1275 + J
theorem ms_a {J j : Nat} (C : Int) (hj : j < J) : C * 2 ^ 1 * 2 ^ (J - (j + 1)) = C * 2 ^ (J - j) := by
  rw [show J - j = J - (j + 1) + 1 by omega, Int.pow_succ 2 (J - (j + 1))]; grind
theorem ms_dn {J j : Nat} (C : Int) (hj : j < J) : ms J (C * 2 ^ 1) (j + 1) = ms J C j - 1 := by
  unfold ms
  rw [ms_a C hj]; omega
theorem mz_up {J j : Nat} (C : Int) (hj : j < J) : mz J (C * 2 ^ 1 + 1) (j + 1) = mz J C j := by
  unfold mz
  rw [show C * 2 ^ 1 + 1 + 1 = (C + 1) * 2 ^ 1 by omega, ms_a (C + 1) hj]
theorem mz_lt {J j : Nat} {C : Int} (hJ : J ≤ 1274) (hj : j ≤ J) : mz J C j < ms J C j := by
  unfold mz ms
  have hp := ip_pos (B := 2) (by decide) (J - j)
  rw [Int.add_mul, Int.one_mul]
  generalize C * 2 ^ (J - j) = A at *
  generalize (2 : Int) ^ (J - j) = B at *
  generalize (2 : Int) ^ J = D at *
  omega
theorem ms_le {J j : Nat} {C : Int} : ms J (C + 1) j ≤ mz J C j := by
  unfold mz ms
  generalize (C + 1) * 2 ^ (J - j) = A at *
  generalize (2 : Int) ^ J = D at *
  omega
theorem ms_pos {J j : Nat} {C : Int} (hj : j ≤ J) (hC : C < 2 ^ j) : 0 < ms J C j := by
  unfold ms
  have hp := ip_pos (B := 2) (by decide) (J - j)
  have h1 := Int.mul_le_mul_of_nonneg_right (show C + 1 ≤ 2 ^ j by omega) (show 0 ≤ (2 : Int) ^ (J - j) by omega)
  rw [← Int.pow_add, show j + (J - j) = J by omega, Int.add_mul, Int.one_mul] at h1
  generalize C * 2 ^ (J - j) = A at *
  generalize (2 : Int) ^ (J - j) = B at *
  generalize (2 : Int) ^ J = D at *
  omega
theorem rV_odd {σ : q_S} {m r : Nat} {x : Int} (h : rV σ m r x) (hx : 0 ≤ x) : ∃ n : Nat, σ (m + 2) r = n ∧ n ≤ 1024 ∧ 0 ≤ pd (mr σ m r) n 0 ∧ pd (mr σ m r) n 0 < 65536 ∧ (pd (mr σ m r) n 0).tmod 2 = x % 2 := by
  obtain ⟨n, ⟨h1, h2, h3, h4, h5⟩, -⟩ := h
  have hb : 0 ≤ pd (mr σ m r) n 0 ∧ pd (mr σ m r) n 0 < 65536 := by
    unfold pd
    split
    · rename_i h9; exact h4 0 h9
    · omega
  refine ⟨n, h1, h3, hb.1, hb.2, ?_⟩
  have h6 : x = dv 65536 (mr σ m r) n := by rw [h5]; omega
  rw [Int.tmod_eq_emod_of_nonneg hb.1]
  unfold pd
  rcases Nat.eq_zero_or_pos n with e | e
  · subst e; rw [h6, dv_0]; rfl
  · obtain ⟨k, rfl⟩ : ∃ k, n = k + 1 := ⟨n - 1, by omega⟩
    rw [if_pos e, h6, dv_cons]; omega
/-- the walk stands at cell C of depth j -/
def inv49 (σ σ1 : q_S) (m p : Nat) (F : Nat → Nat → Int) (d : Nat → Nat) (M : Nat) (C : Int) (j : Nat) (y : Int) : Prop := 0 ≤ C ∧ C < 2 ^ j ∧ j ≤ 1274 ∧ rV σ1 m 109 C ∧ rV σ1 m 110 1 ∧ mq σ1 m p F d ∧ σ1 (m + 7) p = y ∧ (∀ i : Nat, (i : Int) < y → kcl σ1 m p i F d M 0 1274) ∧ isoF σ σ1 m p
theorem inv49.scr {σ σ1 σ2 : q_S} {m p M j j' : Nat} {F : Nat → Nat → Int} {d : Nat → Nat} {C C' y : Int} (h : inv49 σ σ1 m p F d M C j y) (hp : p < 2) (hd : d 0 ≤ 8) (g : scr σ1 σ2 m) (c1 : 0 ≤ C') (c2 : C' < 2 ^ j') (c3 : j' ≤ 1274) (h1 : rV σ2 m 109 C') (h2 : rV σ2 m 110 1) : inv49 σ σ2 m p F d M C' j' y := ⟨c1, c2, c3, h1, h2, h.2.2.2.2.2.1.scr hp hd g, by rw [g.1 (m + 7) (by omega) (by omega) (by omega) (by omega)]; exact h.2.2.2.2.2.2.1, fun i hi => (h.2.2.2.2.2.2.2.1 i hi).scr g, h.2.2.2.2.2.2.2.2.trans g.iso⟩
theorem inv49.keep {σ σ1 σ2 : q_S} {m p M j t : Nat} {F : Nat → Nat → Int} {d : Nat → Nat} {C x : Int} (h : inv49 σ σ1 m p F d M C j (t : Int)) (hp : p < 2) (hd : d 0 ≤ 8) (ht : t < 8) (hx : rce (lk F d 0) (cN F d M) (t : Int) C j x) (k1 : rV σ2 m (140 + 8 * p + t) C) (k2 : σ2 (m + 5) (8 * p + t) = (j : Int)) (k3 : σ2 (m + 6) (8 * p + t) = x) (k4 : σ2 (m + 7) p = (t : Int) + 1) (k5 : ∀ r, r ≠ 140 + 8 * p + t → rE σ1 σ2 m r) (k6 : ∀ k, k ≠ 8 * p + t → σ2 (m + 5) k = σ1 (m + 5) k ∧ σ2 (m + 6) k = σ1 (m + 6) k) (k7 : ∀ k, k ≠ p → σ2 (m + 7) k = σ1 (m + 7) k) (k8 : ∀ q, q ≠ m + 1 → q ≠ m + 2 → q ≠ m + 3 → q ≠ m + 5 → q ≠ m + 6 → q ≠ m + 7 → q ≠ m + 9 → σ2 q = σ1 q) : inv49 σ σ2 m p F d M C j ((t : Int) + 1) := by
  obtain ⟨h1, h2, h3, h4, h5, h6, h7, h8, h9⟩ := h
  refine ⟨h1, h2, h3, h4.mv (k5 _ (by omega)), h5.mv (k5 _ (by omega)), ⟨by rw [k8 (m + 4) (by omega) (by omega) (by omega) (by omega) (by omega) (by omega) (by omega)]; exact h6.1, fun k hk => (h6.2 k hk).mv (k5 _ (by omega))⟩, k4, fun i hi => ?_, h9.trans ⟨fun q a1 a2 a3 _ a5 a6 a7 a8 => k8 q a1 a2 a3 a5 a6 a7 a8, fun r _ _ _ a4 => k5 r (by omega), fun j _ _ => by rw [k8 (m + 4) (by omega) (by omega) (by omega) (by omega) (by omega) (by omega) (by omega)], fun k a1 => k6 k (by omega), fun k a1 => k7 k a1⟩⟩
  by_cases e : i = t
  · subst e; exact ⟨C, j, x, k1, k2, k3, hx, by omega, h3⟩
  · obtain ⟨C', j', x', a1, a2, a3, a4⟩ := h8 i (by omega)
    exact ⟨C', j', x', a1.mv (k5 _ (by omega)), by rw [(k6 _ (by omega)).1]; exact a2, by rw [(k6 _ (by omega)).2]; exact a3, a4⟩
theorem fit_w {ex n : Nat} (h1 : ex ≤ 1989) (h2 : n ≤ 8) : 4 + ex * n / 16 + 1 ≤ 1023 := by
  have h3 : ex * n ≤ 1989 * 8 := Nat.mul_le_mul h1 h2
  have h4 := Nat.div_le_div_right (c := 16) h3
  omega
set_option maxHeartbeats 4000000 in
set_option maxRecDepth 100000 in
theorem a_Mo_iso2 (l : Launch) (K : pw_K) {L : q_L} {σ : q_S} {m p n M : Nat} {P : Nat → Int} {F : Nat → Nat → Int} {d : Nat → Nat} {post : Option Value → q_S → Prop} (hL : mL L m) (hp : p < 2) (hg : gch P n M F d) (h1 : 1 ≤ d 0) {J fu : Nat} (hJ : J = 1274) (h192 : ∀ σ2, σ2 (m + 7) p = vlo F d M - vhi F d M → (∀ i : Nat, (i : Int) < vlo F d M - vhi F d M → kcl σ2 m p i F d M 0 1274) → mq σ2 m p F d → isoF σ σ2 m p → q_T l K L R_Mo b_Mo_isolates 8 none 6 (post) 192 [some (.ref m), some (vi p), some (vi ((2 + p : Nat) : Int)), some (vi 109), none, none, none, none] [] σ2) (ih : ∀ (C : Int) (j : Nat) (σ1 : q_S) (t : Int), t = j → ms J C j ≤ fu → inv49 σ σ1 m p F d M C j (cN F d M (xl C j)) → q_T l K L R_Mo b_Mo_isolates 8 none 6 (post) 49 [some (.ref m), some (vi p), some (vi ((2 + p : Nat) : Int)), some (vi 109), some (vi t), some (vi 1), none, none] [] σ1) : ∀ (j : Nat) (C t v : Int) (σ1 : q_S), t = j → mz J C j ≤ fu → inv49 σ σ1 m p F d M C j (nm (lk F d 0) (cN F d M) (xl C j + wd j)) → q_T l K L R_Mo b_Mo_isolates 8 none 6 (post) 98 [some (.ref m), some (vi p), some (vi ((2 + p : Nat) : Int)), some (vi 109), some (vi t), some (vi 1), some (vi v), none] [] σ1 := by
  have hLL := hL
  obtain ⟨hM0, hM1, hM2, hM3, hM4, hM5, hM6, hM7, hM8, hM9⟩ := hL
  have hcn := hg.cnt
  have hn8 := hg.2.2.1
  have he0 := hg.ends0
  obtain ⟨sN, hsN⟩ := hg.rs
  intro j
  induction j with
  | zero =>
    intro C t v σ1 ht hm hi
    have hC0 : C = 0 := by have := hi.1; have h9 := hi.2.1; rw [Int.pow_zero] at h9; omega
    rw [hC0, he0.2] at hi
    refine q_iload d_Mo_isolates_98 rfl ?_
    refine q_if_le (tgt := 128) (by omega) d_Mo_isolates_100 (by decide) (fun c100 => ?_) (fun c100 => absurd c100 (by omega))
    refine q_iload d_Mo_isolates_128 rfl ?_
    refine q_if_le (tgt := 137) (by omega) d_Mo_isolates_130 (by decide) (fun c130 => ?_) (fun c130 => absurd c130 (by omega))
    refine q_iconst d_Mo_isolates_137 rfl ?_
    refine q_ist_5 d_Mo_isolates_138 (by decide) rfl ?_
    refine q_iload d_Mo_isolates_140 rfl ?_
    refine q_if_ne (tgt := 148) (by decide) d_Mo_isolates_142 (by decide) (fun c142 => absurd c142 (by decide)) (fun c142 => ?_)
    refine q_goto (tgt := 49) d_Mo_isolates_145 (by decide) ?_
    refine q_iload d_Mo_isolates_49 rfl ?_
    refine q_if_eq (tgt := 192) (by decide) d_Mo_isolates_51 (by decide) (fun c51 => ?_) (fun c51 => absurd c51 (by decide))
    refine q_drop_4 ?_
    refine q_drop_5 ?_
    refine q_drop_6 ?_
    exact h192 σ1 hi.2.2.2.2.2.2.1 hi.2.2.2.2.2.2.2.1 hi.2.2.2.2.2.1 hi.2.2.2.2.2.2.2.2
  | succ j ihj =>
    intro C t v σ1 ht hm hi
    obtain ⟨z1, z2, z3, z4, z5, z6, z7, z8, z9⟩ := hi
    have hi : inv49 σ σ1 m p F d M C (j + 1) (nm (lk F d 0) (cN F d M) (xl C (j + 1) + wd (j + 1))) := ⟨z1, z2, z3, z4, z5, z6, z7, z8, z9⟩
    obtain ⟨nl, w1, w2, w3, w4, w5⟩ := rV_odd z4 z1
    have p2 : (2 : Int) ^ (j + 1) = 2 ^ j * 2 := Int.pow_succ _ _
    have hf := hg.fitC z1 z2 (by omega)
    have hf1 : hid ((C.natAbs : Int) < 65536 ^ 95) := hf.1
    clear hf
    refine q_iload d_Mo_isolates_98 rfl ?_
    refine q_if_le (tgt := 128) (by omega) d_Mo_isolates_100 (by decide) (fun c100 => absurd c100 (by omega)) (fun c100 => ?_)
    refine q_aload_n d_Mo_isolates_103 rfl ?_
    refine q_iload_n d_Mo_isolates_104 rfl ?_
    refine q_iconst d_Mo_isolates_105 rfl ?_
    refine q_callV (As := [vi 109, vi 0]) (c_Mo_at l K (r := 109) (n := nl) 0 hLL (by decide) w1 w2 (by decide)) w_cd_Mo_at w_ini_Mo w_ml_Mo_45 w_im_Mo_at w_se_Mo_at hM0 rfl hd_Mo_at rfl (Nat.le_of_ble_eq_true rfl) d_Mo_isolates_106 (by decide) (by decide) (fun v σ9 hp => ?_)
    obtain ⟨rfl, hσ⟩ := hp
    rw [hσ]
    clear hσ σ9
    refine q_iconst d_Mo_isolates_109 rfl ?_
    refine q_irem (by omega) (by decide) (by decide) d_Mo_isolates_110 ?_
    refine q_topi w5 ?_
    refine q_iconst d_Mo_isolates_111 rfl ?_
    refine q_icmp_ne (tgt := 128) (by omega) (by decide) d_Mo_isolates_112 (by decide) (fun co => ?_) (fun co => ?_)
    · refine q_iload d_Mo_isolates_128 rfl ?_
      refine q_if_le (tgt := 137) (by omega) d_Mo_isolates_130 (by decide) (fun c130 => absurd c130 (by omega)) (fun c130 => ?_)
      refine q_iconst d_Mo_isolates_133 rfl ?_
      refine q_goto (tgt := 138) d_Mo_isolates_134 (by decide) ?_
      refine q_ist_5 d_Mo_isolates_138 (by decide) rfl ?_
      refine q_iload d_Mo_isolates_140 rfl ?_
      refine q_if_ne (tgt := 148) (by decide) d_Mo_isolates_142 (by decide) (fun c142 => ?_) (fun c142 => absurd c142 (by decide))
      refine q_aload_n d_Mo_isolates_148 rfl ?_
      refine q_iload_n d_Mo_isolates_149 rfl ?_
      refine q_iload_n d_Mo_isolates_150 rfl ?_
      refine q_bipush d_Mo_isolates_151 (by decide) ?_
      refine q_iconst d_Mo_isolates_153 rfl ?_
      refine q_callV (As := [vi 109, vi 109, vi 110, vi 1]) (c_Mo_sum l K (r := 109) (i := 109) (j := 110) (u := 95) (f := 1) hLL (by decide) (by decide) (by decide) z4 z5 (Or.inl rfl) hf1 (show (((1 : Int).natAbs : Nat) : Int) < 65536 ^ 95 by decide) (by decide)) w_cd_Mo_sum w_ini_Mo w_ml_Mo_83 w_im_Mo_sum w_se_Mo_sum hM0 rfl hd_Mo_sum rfl (Nat.le_of_ble_eq_true rfl) d_Mo_isolates_154 (by decide) (by decide) (fun v σ2 hp => ?_)
      obtain ⟨rfl, k1, k2, k3⟩ := hp
      rw [Int.one_mul] at k1
      have hC2 : C + 1 < 2 ^ (j + 1) := by omega
      have hf2 := hg.fitC (show 0 ≤ C + 1 by omega) hC2 (by omega)
      have i2 : inv49 σ σ2 m p F d M (C + 1) (j + 1) (nm (lk F d 0) (cN F d M) (xl (C + 1) (j + 1))) := by
        rw [xl_s C (by omega)]
        exact hi.scr hp (by omega) ⟨k2, fun r h => k3 r (by omega)⟩ (by omega) hC2 z3 k1 (z5.mv (k3 _ (by decide)))
      have hfb := hg.fitR (show 0 ≤ C + 1 by omega) hC2 (by omega)
      refine q_aload_n d_Mo_isolates_157 rfl ?_
      refine q_bipush d_Mo_isolates_158 (by decide) ?_
      refine q_iload_n d_Mo_isolates_160 rfl ?_
      refine q_iload d_Mo_isolates_161 rfl ?_
      refine q_callV (As := [vi 111, vi 109, vi t]) ((ht ▸ c_Mo_lower l K (o := 111) (c := 109) (j := j + 1) (u := 95) hLL (by decide) (by decide) (by decide) (by decide) k1 hf2.1 (by omega) (by decide) : q_C l K L y_Mo_lower b_Mo_lower 4 (some .int) 3 [.ref m, vi 111, vi 109, vi t] σ2 _)) w_cd_Mo_lower w_ini_Mo w_ml_Mo_111 w_im_Mo_lower w_se_Mo_lower hM0 rfl hd_Mo_lower rfl (Nat.le_of_ble_eq_true rfl) d_Mo_isolates_163 (by decide) (by decide) (fun v σ3 hp => ?_)
      obtain ⟨rfl, k4, k5, k6⟩ := hp
      have i3 := i2.scr hp (by omega) ⟨k5, fun r h => k6 r (by omega) (by omega)⟩ i2.1 i2.2.1 z3 (k1.mv (k6 _ (by decide) (by decide))) (i2.2.2.2.2.1.mv (k6 _ (by decide) (by decide)))
      refine q_ist_7 d_Mo_isolates_166 (by decide) rfl ?_
      refine q_aload_n d_Mo_isolates_168 rfl ?_
      refine q_iload_n d_Mo_isolates_169 rfl ?_
      refine q_bipush d_Mo_isolates_170 (by decide) ?_
      refine q_iload d_Mo_isolates_172 rfl ?_
      refine q_callV (As := [vi ((2 + p : Nat) : Int), vi 111, vi ((j + 1 - 44 : Nat) : Int)]) (c_Mo_signOf l K σ3 (p := 2 + p) (w := 111) (n := d 0) (ex := j + 1 - 44) (u := 876) (v := 126) (c := 4) (P := F 0) hLL (by omega) (by decide) (by decide) (by decide) (by omega) (by omega) i3.2.2.2.2.2.1.1 i3.2.2.2.2.2.1.2 k4 hfb.2.1 (fun k _ => hg.fitP k) hfb.2.2.1 (by decide) (fit_w (by omega) (by omega))) w_cd_Mo_signOf w_ini_Mo w_ml_Mo_131 w_im_Mo_signOf w_se_Mo_signOf hM0 rfl hd_Mo_signOf rfl (Nat.le_of_ble_eq_true rfl) d_Mo_isolates_174 (by decide) (by decide) (fun v σ4 hp => ?_)
      obtain ⟨rfl, k7, k8⟩ := hp
      rw [hv_xl]
      have i4 := i3.scr hp (by omega) ⟨k7, fun r h => k8 r (by omega) (by omega)⟩ i3.1 i3.2.1 z3 (i3.2.2.2.1.mv (k8 _ (by decide) (by decide))) (i3.2.2.2.2.1.mv (k8 _ (by decide) (by decide)))
      have hsb := sgr_b (lk F d 0 (xl (C + 1) (j + 1)))
      have hmu := ms_le (J := J) (j := j + 1) (C := C)
      refine q_if_ne (tgt := 189) (by omega) d_Mo_isolates_177 (by decide) (fun cs => ?_) (fun cs => ?_)
      · refine q_goto (tgt := 49) d_Mo_isolates_189 (by decide) ?_
        have hq : lk F d 0 (xl (C + 1) (j + 1)) ≠ 0 := sgr_ne.1 cs
        have hn : nm (lk F d 0) (cN F d M) (xl (C + 1) (j + 1)) = cN F d M (xl (C + 1) (j + 1)) := if_neg hq
        rw [hn] at i4
        refine q_drop_6 ?_
        refine q_drop_7 ?_
        exact ih (C + 1) (j + 1) σ4 t ht (by omega) i4
      · have hq : lk F d 0 (xl (C + 1) (j + 1)) = 0 := sgr_z.1 (by omega)
        have hnn := (nm_N (lk F d 0) (cN F d M) (xl (C + 1) (j + 1))).2.2.1 hq
        have hr0 := hsN.rts.2.2 (xl (C + 1) (j + 1))
        obtain ⟨tt, htt⟩ : ∃ tt : Nat, nm (lk F d 0) (cN F d M) (xl (C + 1) (j + 1)) = tt := ⟨(nm (lk F d 0) (cN F d M) (xl (C + 1) (j + 1))).toNat, by omega⟩
        rw [htt] at i4
        refine q_aload_n d_Mo_isolates_180 rfl ?_
        refine q_iload_n d_Mo_isolates_181 rfl ?_
        refine q_iload_n d_Mo_isolates_182 rfl ?_
        refine q_iload d_Mo_isolates_183 rfl ?_
        refine q_iconst d_Mo_isolates_185 rfl ?_
        refine q_callV (As := [vi p, vi 109, vi t, vi 1]) (c_Mo_keep l K (p := p) (c := 109) (fd := tt) (j := t) (is := 1) hLL hp (by decide) (by omega) i4.2.2.2.2.2.2.1 (Or.inr rfl) i4.2.2.2.1) w_cd_Mo_keep w_ini_Mo w_ml_Mo_124 w_im_Mo_keep w_se_Mo_keep hM0 rfl hd_Mo_keep rfl (Nat.le_of_ble_eq_true rfl) d_Mo_isolates_186 (by decide) (by decide) (fun v σ5 hp => ?_)
        obtain ⟨rfl, k9, k10, k11, k12, k13, k14, k15, k16⟩ := hp
        have i5 := i4.keep hp (by omega) (by omega) ⟨i4.1, i4.2.1, Or.inl ⟨rfl, hq, htt⟩⟩ k9 (k10.trans ht) k11 k12 k13 k14 k15 k16
        refine q_goto (tgt := 49) d_Mo_isolates_189 (by decide) ?_
        refine q_drop_6 ?_
        refine q_drop_7 ?_
        refine ih (C + 1) (j + 1) σ5 t ht (by omega) ?_
        rw [hnn, htt]
        exact i5
    · refine q_aload_n d_Mo_isolates_115 rfl ?_
      refine q_iload_n d_Mo_isolates_116 rfl ?_
      refine q_iconst d_Mo_isolates_117 rfl ?_
      refine q_callV (As := [vi 109, vi 2]) (c_Mo_parts l K (r := 109) (s := 2) hLL (by decide) z4 (by decide)) w_cd_Mo_parts w_ini_Mo w_ml_Mo_128 w_im_Mo_parts w_se_Mo_parts hM0 rfl hd_Mo_parts rfl (Nat.le_of_ble_eq_true rfl) d_Mo_isolates_118 (by decide) (by decide) (fun v σ2 hp => ?_)
      obtain ⟨rfl, k1, k2, -, k3⟩ := hp
      obtain ⟨c', rfl⟩ : ∃ c', C = c' * 2 ^ 1 + 1 := ⟨C / 2, by omega⟩
      have ec : (c' * 2 ^ 1 + 1).sign * (((c' * 2 ^ 1 + 1).natAbs : Int) / 2) = c' := by
        rw [Int.sign_eq_one_of_pos (by omega), Int.one_mul]; omega
      rw [ec] at k1
      have hj0 : j = 0 → c' = 0 := fun h0 => by subst h0; rw [Int.pow_zero] at p2; omega
      have i2 : inv49 σ σ2 m p F d M c' j (nm (lk F d 0) (cN F d M) (xl c' j + wd j)) := by
        rw [← xl_up c' hj0]
        exact hi.scr hp (by omega) ⟨k2, fun r h => k3 r (by omega)⟩ (by omega) (by omega) (by omega) k1 (z5.mv (k3 _ (by decide)))
      rw [mz_up c' (by omega)] at hm
      refine q_pop d_Mo_isolates_121 rfl ?_
      refine q_iinc_4 d_Mo_isolates_122 (by decide) rfl ?_
      refine q_goto (tgt := 98) d_Mo_isolates_125 (by decide) ?_
      exact ihj c' _ v σ2 (by omega) hm i2
