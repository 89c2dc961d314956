/-! THE REFERENCE: refinesTo, sideOfRoot -/
/-- root i's cell is C of depth j -/
def kat (σ : q_S) (m p i : Nat) (F : Nat → Nat → Int) (d : Nat → Nat) (M : Nat) (C : Int) (j : Nat) (x : Int) : Prop := rV σ m (140 + 8 * p + i) C ∧ σ (m + 5) (8 * p + i) = (j : Int) ∧ σ (m + 6) (8 * p + i) = x ∧ rce (lk F d 0) (cN F d M) (i : Int) C j x
/-- what a refining leaves alone -/
def rfF (σ σ' : q_S) (m p i : Nat) : Prop := (∀ q, q ≠ m + 1 → q ≠ m + 2 → q ≠ m + 3 → q ≠ m + 4 → q ≠ m + 5 → q ≠ m + 6 → q ≠ m + 9 → σ' q = σ q) ∧ (∀ j, j ≠ 7 → σ' (m + 4) j = σ (m + 4) j) ∧ (∀ k, k ≠ 8 * p + i → σ' (m + 5) k = σ (m + 5) k ∧ σ' (m + 6) k = σ (m + 6) k) ∧ (∀ r, (r < 63 ∨ 71 ≤ r) → (r < 96 ∨ 125 ≤ r) → r ≠ 140 + 8 * p + i → rE σ σ' m r)
theorem rfF.trans {σ σ1 σ2 : q_S} {m p i : Nat} (h : rfF σ σ1 m p i) (g : rfF σ1 σ2 m p i) : rfF σ σ2 m p i := ⟨fun q a1 a2 a3 a4 a5 a6 a7 => (g.1 q a1 a2 a3 a4 a5 a6 a7).trans (h.1 q a1 a2 a3 a4 a5 a6 a7), fun j a => (g.2.1 j a).trans (h.2.1 j a), fun k a => ⟨(g.2.2.1 k a).1.trans (h.2.2.1 k a).1, (g.2.2.1 k a).2.trans (h.2.2.1 k a).2⟩, fun r a1 a2 a3 => (h.2.2.2 r a1 a2 a3).trans (g.2.2.2 r a1 a2 a3)⟩
theorem rfF.iso {σ σ' : q_S} {m p i : Nat} (h : rfF σ σ' m p i) (hp : p < 2) (hi : i < 8) : isoF σ σ' m p := ⟨fun q a1 a2 a3 a4 a5 a6 _ a8 => h.1 q a1 a2 a3 a4 a5 a6 a8, fun r a1 a2 a3 a4 => h.2.2.2 r (by omega) (by omega) (by omega), fun j a1 a2 => h.2.1 j (by omega), fun k a => h.2.2.1 k (by omega), fun k _ => by rw [h.1 (m + 7) (by omega) (by omega) (by omega) (by omega) (by omega) (by omega) (by omega)]⟩
theorem rfF.mq {σ σ' : q_S} {m p i : Nat} {F : Nat → Nat → Int} {d : Nat → Nat} (h : rfF σ σ' m p i) (hp : p < 2) (hd : d 0 ≤ 8) {p' : Nat} (hp' : p' < 2) (g : mq σ m p' F d) : mq σ' m p' F d := ⟨by rw [h.2.1 _ (by omega)]; exact g.1, fun k hk => (g.2 k hk).mv (h.2.2.2 _ (by omega) (by omega) (by omega))⟩
theorem rfF.cl {σ σ' : q_S} {m p i : Nat} {F : Nat → Nat → Int} {d : Nat → Nat} {M lo hi : Nat} (h : rfF σ σ' m p i) {p' i' : Nat} (hp : p < 2) (hp' : p' < 2) (h8 : i < 8) (h8' : i' < 8) (hne : p' ≠ p ∨ i' ≠ i) (g : kcl σ m p' i' F d M lo hi) : kcl σ' m p' i' F d M lo hi := by
  obtain ⟨C, j, x, a1, a2, a3, a4⟩ := g
  exact ⟨C, j, x, a1.mv (h.2.2.2 _ (by omega) (by omega) (by omega)), by rw [(h.2.2.1 _ (by omega)).1]; exact a2, by rw [(h.2.2.1 _ (by omega)).2]; exact a3, a4⟩
theorem scr.rf {σ σ' : q_S} {m p i : Nat} (h : rO σ σ' m) (g : ∀ r, (r < 96 ∨ 125 ≤ r) → rE σ σ' m r) : rfF σ σ' m p i := ⟨fun q a1 a2 a3 _ _ _ a7 => h q a1 a2 a3 a7, fun j _ => by rw [h (m + 4) (by omega) (by omega) (by omega) (by omega)], fun k _ => ⟨by rw [h (m + 5) (by omega) (by omega) (by omega) (by omega)], by rw [h (m + 6) (by omega) (by omega) (by omega) (by omega)]⟩, fun r _ a2 _ => g r a2⟩
theorem kat.scr {σ σ' : q_S} {m p i M : Nat} {F : Nat → Nat → Int} {d : Nat → Nat} {C x : Int} {j : Nat} (k : kat σ m p i F d M C j x) (h : rO σ σ' m) (g : rE σ σ' m (140 + 8 * p + i)) : kat σ' m p i F d M C j x := ⟨k.1.mv g, by rw [h (m + 5) (by omega) (by omega) (by omega) (by omega)]; exact k.2.1, by rw [h (m + 6) (by omega) (by omega) (by omega) (by omega)]; exact k.2.2.1, k.2.2.2⟩
section
variable {P : Nat → Int} {n M : Nat} {F : Nat → Nat → Int} {d : Nat → Nat}
theorem gch.hlfs (h : gch P n M F d) (h1 : 1 ≤ d 0) {i C x : Int} {j : Nat} (hc : rce (lk F d 0) (cN F d M) i C j x) : ∀ t, rce (lk F d 0) (cN F d M) i (rfs (F 0) (d 0) C j x t).1 (j + t) (rfs (F 0) (d 0) C j x t).2
  | 0 => hc
  | t + 1 => h.hlf h1 (h.hlfs h1 hc t)
end
theorem al_Mo_refinesTo (l : Launch) (K : pw_K) {L : q_L} {σ : q_S} {m p i n M f j : Nat} {P : Nat → Int} {F : Nat → Nat → Int} {d : Nat → Nat} {C x : Int} (hL : mL L m) (hp : p < 2) (hi : i < 8) (hg : gch P n M F d) (h1 : 1 ≤ d 0) (hq : mq σ m p F d) (hk : kat σ m p i F d M C j x) (hj : j ≤ 1980) (hf : 44 + f ≤ 1980) : q_C l K L y_Mo_refinesTo b_Mo_refinesTo 4 none 6 [.ref m, vi p, vi i, vi f] σ (fun r σ' => r = none ∧ (∃ (C' x' : Int), kat σ' m p i F d M C' (j + (44 + f - j)) x') ∧ rfF σ σ' m p i) := by
  have hcn := hg.cnt
  have hn8 := hg.2.2.1
  obtain ⟨a1, a2, a3, a4⟩ := hk
  have hr := hg.hlfs h1 a4
  have hx01 : x = 0 ∨ x = 1 := by rcases a4.2.2 with ⟨h9, -⟩ | ⟨h9, -⟩ <;> omega
  have hw3 : 4 + (j + (44 + f - j)) * d 0 / 16 + 2 ≤ 1023 := by
    have h3 : (j + (44 + f - j)) * d 0 ≤ 1980 * 8 := Nat.mul_le_mul (by omega) (by omega)
    have h4 := Nat.div_le_div_right (c := 16) h3
    omega
  refine q_C.mono (c_Mo_refinesTo l K (p := p) (i := i) (n := d 0) (D := j) (f := f) (cu := 127) (u := 876) (v := 126) (c := 4) (P := F 0) hL hp hi (by omega) h1 hq.1 hq.2 (fun k _ => hg.fitP k) a1 a2 a3 hx01 (by omega) (fun t ht => hg.fitR (hr t).1 (hr t).2.1 (by omega)) (by omega) (by decide) (by decide) hw3 (by omega)) (fun r σ' hp' => ?_)
  obtain ⟨k0, k1, k2, k3, k4, k5, k6, k7⟩ := hp'
  exact ⟨k0, ⟨_, _, k1, k2, k3, hr _⟩, k4, k5, k6, fun r b1 b2 b3 => k7 r (by omega) (by omega) (by omega) (by omega) (by omega) (by omega) b1 b3⟩
/-- a point of the cell's own grid, against its root -/
theorem rce_side {q : Rat → Rat} {s N : Rat → Int} {c i C x : Int} {j : Nat} {y : Int} (hs : rsx q s N c) (hj : 44 ≤ j) (h : rce q N i C j x) (h0 : 0 ≤ i) : sdo q N i ((y : Rat) / ((2 ^ (j - 44) : Int) : Rat)) = if x = 0 then (if (lowv C j - y).sign < 0 then -1 else 1) else (lowv C j - y).sign := by
  have hD := ip_pos (B := 2) (by decide) (j - 44)
  have hw : xl C j + wd j = ((lowv C j + 1 : Int) : Rat) / ((2 ^ (j - 44) : Int) : Rat) := by
    unfold xl wd
    rw [show 44 - j = 0 by omega, tp0, Rat.intCast_add, Rat.div_def, Rat.div_def, Rat.div_def]
    have : ((1 : Int) : Rat) = 1 := rfl
    rw [this]; grind
  have hxl : xl C j = ((lowv C j : Int) : Rat) / ((2 ^ (j - 44) : Int) : Rat) := rfl
  have key : ∀ a b : Int, a < b → ((a : Rat) / ((2 ^ (j - 44) : Int) : Rat)) < ((b : Rat) / ((2 ^ (j - 44) : Int) : Rat)) := fun a b hab => (rlt_dd hD hD).2 (Int.mul_lt_mul_of_pos_right hab hD)
  obtain ⟨-, -, h3⟩ := h
  have n0 := nm_N q N ((y : Rat) / ((2 ^ (j - 44) : Int) : Rat))
  have n1 := nm_N q N (xl C j)
  have hr := sdo_r (i := i) hs ((y : Rat) / ((2 ^ (j - 44) : Int) : Rat))
  rcases Int.lt_trichotomy (lowv C j) y with hlt | heq | hgt
  · have hsg : (lowv C j - y).sign = -1 := Int.sign_eq_neg_one_of_neg (by omega)
    rw [hsg]
    have hb : i < nm q N ((y : Rat) / ((2 ^ (j - 44) : Int) : Rat)) := by
      rcases h3 with ⟨-, b1, b2⟩ | ⟨-, b1, b2⟩
      · have := hs.nmm (hxl ▸ key _ _ hlt : xl C j < _)
        have := n1.2.2.1 b1
        omega
      · rcases Int.lt_or_le (lowv C j + 1) y with h9 | h9
        · have h8 := hs.rts.nn (Rat.le_of_lt (key _ _ h9))
          rw [← hw, b2] at h8
          omega
        · rw [show y = lowv C j + 1 by omega, ← hw, b2]; omega
    have : sdo q N i ((y : Rat) / ((2 ^ (j - 44) : Int) : Rat)) = -1 := by
      rcases hr with h9 | h9 | h9
      · omega
      · omega
      · omega
    rw [this]
    split <;> rfl
  · have e : (y : Rat) / ((2 ^ (j - 44) : Int) : Rat) = xl C j := by rw [← heq]; rfl
    rw [show (lowv C j - y).sign = 0 by rw [show lowv C j - y = 0 by omega]; rfl]
    rw [e] at hr n0 ⊢
    rcases h3 with ⟨b0, b1, b2⟩ | ⟨b0, b1, b2⟩
    · rw [if_neg (by omega)]
      have := n1.2.2.1 b1
      omega
    · rw [if_pos b0, if_neg (by omega)]
      omega
  · have hsg : (lowv C j - y).sign = 1 := Int.sign_eq_one_of_pos (by omega)
    rw [hsg]
    have hb : N ((y : Rat) / ((2 ^ (j - 44) : Int) : Rat)) ≤ i := by
      have h8 := hs.nmm (hxl ▸ key _ _ hgt : _ < xl C j)
      rcases h3 with ⟨-, b1, b2⟩ | ⟨-, b1, b2⟩ <;> omega
    have : sdo q N i ((y : Rat) / ((2 ^ (j - 44) : Int) : Rat)) = 1 := by omega
    rw [this]
    split
    · rw [if_neg (by omega)]
    · rfl
