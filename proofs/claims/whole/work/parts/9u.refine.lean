/-! HELD: refine -/
section
variable {q : Rat → Rat} {s N : Rat → Int} {c : Int}
theorem ccl.in0 {i z lev ls : Int} (hs : rsx q s N c) (h : ccl q N i z lev ls 0) : N (dy z lev) = i ∧ q (dy z lev) ≠ 0 ∧ sgr (q (dy z lev)) = ls ∧ sgr (q (dy (z + 1) lev)) = -ls ∧ (ls = 1 ∨ ls = -1) := by
  obtain ⟨h1, h2, h3, h4, h5, h6⟩ := h
  rcases h4 with ⟨h4, h4b⟩ | ⟨h4, -, h4b⟩
  · omega
  · have e1 : N (dy z lev) = i := by rw [← h1]; unfold nm; rw [if_neg h4]
    have e2 := (hs.par (dy_le.2 (show z ≤ z + 1 by omega)) h4 h3).2 (by omega)
    have e3 := sgr_ne.2 h4
    exact ⟨e1, h4, h4b.symm, by rw [e2, h4b], by omega⟩
theorem ccl.sub0 {i z lev ls z' : Int} {w : Nat} (hs : rsx q s N c) (h : ccl q N i z lev ls 0) (h1 : z * 2 ^ w ≤ z') (h2 : z' ≤ (z + 1) * 2 ^ w) (s1 : sgr (q (dy z' (lev + w))) = ls) (s2 : sgr (q (dy (z' + 1) (lev + w))) = -ls) : ccl q N i z' (lev + w) ls 0 ∧ z' + 1 ≤ (z + 1) * 2 ^ w := by
  obtain ⟨a1, a2, a3, a4, a5⟩ := h.in0 hs
  obtain ⟨b1, b2, b3, b4, b5, b6⟩ := h
  have e1 := dy_k z lev w
  have e2 := dy_k (z + 1) lev w
  have hlt : z' + 1 ≤ (z + 1) * 2 ^ w := by
    rcases Int.lt_or_eq_of_le h2 with h3 | h3
    · omega
    · exfalso; rw [h3, e2, a4] at s1; omega
  have x1 : dy z lev ≤ dy z' (lev + w) := by rw [← e1]; exact dy_le.2 h1
  have x2 : dy (z' + 1) (lev + w) ≤ dy (z + 1) lev := by rw [← e2]; exact dy_le.2 hlt
  have x3 : dy z' (lev + w) ≤ dy (z' + 1) (lev + w) := dy_le.2 (by omega)
  have n1 := hs.mono x1
  have n2 := hs.mono x2
  have n3 := hs.mono x3
  have q1 : q (dy z' (lev + w)) ≠ 0 := sgr_ne.1 (by omega)
  have q2 : q (dy (z' + 1) (lev + w)) ≠ 0 := sgr_ne.1 (by omega)
  have p1 := hs.par x1 a2 q1
  have p2 := hs.par (Rat.le_trans x1 x3) a2 q2
  have m1 : N (dy z' (lev + w)) = i := by
    rcases (show N (dy z' (lev + w)) = i ∨ N (dy z' (lev + w)) = i + 1 by omega) with h3 | h3
    · exact h3
    · have := p1.2 (by omega); omega
  have m2 : N (dy (z' + 1) (lev + w)) = i + 1 := by
    rcases (show N (dy (z' + 1) (lev + w)) = i ∨ N (dy (z' + 1) (lev + w)) = i + 1 by omega) with h3 | h3
    · have := p2.1 (by omega); omega
    · exact h3
  exact ⟨⟨by unfold nm; rw [if_neg q1]; exact m1, m2, q2, Or.inr ⟨q1, rfl, s1.symm⟩, b5, b6⟩, hlt⟩
theorem ccl.sub1 {i z lev ls z' : Int} {w : Nat} (hs : rsx q s N c) (h : ccl q N i z lev ls 0) (h1 : z * 2 ^ w ≤ z') (h2 : z' ≤ (z + 1) * 2 ^ w) (s1 : sgr (q (dy z' (lev + w))) = 0) : ccl q N i z' (lev + w) ls 1 ∧ z' + 1 ≤ (z + 1) * 2 ^ w := by
  obtain ⟨a1, a2, a3, a4, a5⟩ := h.in0 hs
  obtain ⟨b1, b2, b3, b4, b5, b6⟩ := h
  have e1 := dy_k z lev w
  have e2 := dy_k (z + 1) lev w
  have hlt : z' + 1 ≤ (z + 1) * 2 ^ w := by
    rcases Int.lt_or_eq_of_le h2 with h3 | h3
    · omega
    · exfalso; rw [h3, e2, a4] at s1; omega
  have hgt : z * 2 ^ w < z' := by
    rcases Int.lt_or_eq_of_le h1 with h3 | h3
    · exact h3
    · exfalso; rw [← h3, e1, a3] at s1; omega
  have x1 : dy z lev < dy z' (lev + w) := by rw [← e1]; exact dy_lt.2 hgt
  have x2 : dy (z' + 1) (lev + w) ≤ dy (z + 1) lev := by rw [← e2]; exact dy_le.2 hlt
  have x3 : dy z' (lev + w) < dy (z' + 1) (lev + w) := dy_lt.2 (by omega)
  have q1 := sgr_z.1 s1
  have n1 := hs.nmm x1
  have n2 := hs.mono x2
  have n3 := hs.nmm x3
  have k1 := nm_N q N (dy z' (lev + w))
  have k2 := nm_N q N (dy (z' + 1) (lev + w))
  have k3 := k1.2.2.1 q1
  have q2 : q (dy (z' + 1) (lev + w)) ≠ 0 := fun h0 => by have := k2.2.2.1 h0; omega
  exact ⟨⟨by omega, by omega, q2, Or.inl ⟨q1, rfl⟩, b5, b6⟩, hlt⟩
end
theorem zin.sub {z lev z' : Int} {w : Nat} (h : zin z lev) (hl : -32 ≤ lev) (h1 : z * 2 ^ w ≤ z') (h2 : z' + 1 ≤ (z + 1) * 2 ^ w) : zin z' (lev + w) := by
  have := zmul (w := w) h hl
  exact ⟨by omega, by omega⟩
/-- the cell at hand -/
def cat (σ : q_S) (a i : Nat) (F : Nat → Nat → Int) (d : Nat → Nat) (M : Nat) (z lev ls x : Int) : Prop := nV σ (a + 153 + 3 * i + 1) 48 z ∧ σ (a + 153 + 3 * i) 1 = lev ∧ σ (a + 153 + 3 * i) 2 = ls ∧ σ (a + 153 + 3 * i) 3 = 1 ∧ σ (a + 153 + 3 * i) 4 = x ∧ ccl (lk F d 0) (cN F d M) i z lev ls x ∧ -32 ≤ lev ∧ lev ≤ LV (d 0) ∧ zin z lev
theorem ccl.x01 {q : Rat → Rat} {N : Rat → Int} {i z lev ls x : Int} (h : ccl q N i z lev ls x) : x = 0 ∨ x = 1 := by
  rcases h.2.2.2.1 with ⟨-, h⟩ | ⟨-, h, -⟩
  · exact Or.inr h
  · exact Or.inl h
theorem div2 {x : Int} (h : 2 ≤ x) : 1 ≤ x.tdiv 2 ∧ 2 * x.tdiv 2 ≤ x := by
  rw [Int.tdiv_eq_ediv_of_nonneg (by omega)]
  omega
set_option maxHeartbeats 4000000 in
set_option maxRecDepth 100000 in
theorem c_He_refine (l : Launch) (K : pw_K) {L : q_L} {σ : q_S} {a B i n M : Nat} {P : Nat → Int} {F : Nat → Nat → Int} {d : Nat → Nat} {tg : Int} (hL : heL L a) (hbL : beL L B) (hdj : a + 177 ≤ B ∨ B + 91 ≤ a) (hi : i < 8) (hg : gch P n M F d) (hc : cst σ a M F d) (hcl : rcl σ a i F d M) (ht : 0 ≤ tg ∧ tg ≤ 308) : q_C l K L y_He_refine b_He_refine 8 none 7 [.ref a, vi i, vi tg, .ref B] σ (fun r σ' => r = none ∧ (∃ z lev ls x : Int, cat σ' a i F d M z lev ls x ∧ (x = 1 ∨ tg ≤ lev)) ∧ (∀ q, (q ≤ B ∨ (B + 7 ≤ q ∧ q ≤ B + 8) ∨ (B + 15 ≤ q ∧ q ≤ B + 24) ∨ B + 35 ≤ q) → (q < a + 153 + 3 * i ∨ a + 153 + 3 * i + 2 < q) → σ' q = σ q)) := by
  have hLL := hL
  obtain ⟨hH0, -, -, hch, ⟨rg, hrg, hrg2⟩, hroA⟩ := hL
  have hro := hroA i hi
  obtain ⟨s, hs⟩ := hg.rs
  have hd8 : d 0 ≤ 8 := by have := hg.cnt; have := hg.2.2.1; omega
  have hLV := LV_ge (d 0)
  have huv := uvM (d 0) hd8
  have c1 : d 0 < 9 ∧ σ (a + 24) 1 = (d 0 : Int) ∧ ∀ c, c ≤ d 0 → nV σ (a + 24 + 2 + 2 * c) 48 (F 0 c) := hc.2.2 0 (Nat.zero_le _)
  refine q_start [some (.ref a), some (vi i), some (vi tg), some (.ref B), none, none, none, none] (by decide) (Nat.le_of_ble_eq_true rfl) (fun q h => h) ?_
  have loop : ∀ (f k : Nat) (u W : Int) (σ1 : q_S) (z lev ls x : Int), hid (cat σ1 a i F d M z lev ls x) → (∀ q, (q ≤ B ∨ (B + 7 ≤ q ∧ q ≤ B + 8) ∨ (B + 15 ≤ q ∧ q ≤ B + 24) ∨ B + 35 ≤ q) → (q < a + 153 + 3 * i ∨ a + 153 + 3 * i + 2 < q) → σ1 q = σ q) → 2 * (tg - lev).toNat + k ≤ f → 0 ≤ u → u + f ≤ 1990 → 1 ≤ W → W ≤ 1000 → W < 2 ^ (k + 1) → q_T l K L R_He b_He_refine 8 none 7 (fun r σ' => r = none ∧ (∃ z lev ls x : Int, cat σ' a i F d M z lev ls x ∧ (x = 1 ∨ tg ≤ lev)) ∧ (∀ q, (q ≤ B ∨ (B + 7 ≤ q ∧ q ≤ B + 8) ∨ (B + 15 ≤ q ∧ q ≤ B + 24) ∨ B + 35 ≤ q) → (q < a + 153 + 3 * i ∨ a + 153 + 3 * i + 2 < q) → σ' q = σ q)) 14 [some (.ref a), some (vi i), some (vi tg), some (.ref B), some (.ref (a + 153 + 3 * i)), some (vi W), some (vi u), none] [] σ1 := by
    intro f
    induction f with
    | zero =>
      intro k u W σ1 z lev ls x hca hfr hme hu hf hW1 hW2 hW3
      obtain ⟨d1, d2, d3, d4, d5, d6, d7, d8, d9⟩ := hca
      have hx := d6.x01
      refine q_iload d_He_refine_14 rfl ?_
      refine q_sipush d_He_refine_16 (by decide) ?_
      refine q_icmp_ge (tgt := 110) (by omega) (by omega) d_He_refine_19 (by decide) (fun c19 => absurd c19 (by omega)) (fun c19 => ?_)
      refine q_aload d_He_refine_22 rfl ?_
      refine q_gi hro.1 pc_Ro 4 (by decide) w_fl_He_177 rfl (by rfl) d_He_refine_24 ?_
      refine q_topi d5 ?_
      refine q_if_ne (tgt := 110) (by omega) d_He_refine_27 (by decide) (fun cx => ?_) (fun cx => ?_)
      · exact q_vret rfl (⟨rfl, ⟨z, lev, ls, x, ⟨d1, d2, d3, d4, d5, d6, d7, d8, d9⟩, Or.inl (by omega)⟩, hfr⟩) d_He_refine_110
      · refine q_aload d_He_refine_30 rfl ?_
        refine q_gi hro.1 pc_Ro 1 (by decide) w_fl_He_156 rfl (by rfl) d_He_refine_32 ?_
        refine q_topi d2 ?_
        refine q_iload_n d_He_refine_35 rfl ?_
        refine q_icmp_ge (tgt := 110) (by omega) (by omega) d_He_refine_36 (by decide) (fun c36 => ?_) (fun c36 => absurd c36 (by omega))
        exact q_vret rfl (⟨rfl, ⟨z, lev, ls, x, ⟨d1, d2, d3, d4, d5, d6, d7, d8, d9⟩, Or.inr (by omega)⟩, hfr⟩) d_He_refine_110
    | succ f ih =>
      intro k u W σ1 z lev ls x hca hfr hme hu hf hW1 hW2 hW3
      have hca2 := hca
      obtain ⟨d1, d2, d3, d4, d5, d6, d7, d8, d9⟩ := hca
      have hx := d6.x01
      have hz : hid _ := d9
      refine q_iload d_He_refine_14 rfl ?_
      refine q_sipush d_He_refine_16 (by decide) ?_
      refine q_icmp_ge (tgt := 110) (by omega) (by omega) d_He_refine_19 (by decide) (fun c19 => absurd c19 (by omega)) (fun c19 => ?_)
      refine q_aload d_He_refine_22 rfl ?_
      refine q_gi hro.1 pc_Ro 4 (by decide) w_fl_He_177 rfl (by rfl) d_He_refine_24 ?_
      refine q_topi d5 ?_
      refine q_if_ne (tgt := 110) (by omega) d_He_refine_27 (by decide) (fun cx => ?_) (fun cx => ?_)
      · exact q_vret rfl (⟨rfl, ⟨z, lev, ls, x, ⟨d1, d2, d3, d4, d5, d6, d7, d8, d9⟩, Or.inl (by omega)⟩, hfr⟩) d_He_refine_110
      · refine q_aload d_He_refine_30 rfl ?_
        refine q_gi hro.1 pc_Ro 1 (by decide) w_fl_He_156 rfl (by rfl) d_He_refine_32 ?_
        refine q_topi d2 ?_
        refine q_iload_n d_He_refine_35 rfl ?_
        refine q_icmp_ge (tgt := 110) (by omega) (by omega) d_He_refine_36 (by decide) (fun cl => ?_) (fun cl => ?_)
        · exact q_vret rfl (⟨rfl, ⟨z, lev, ls, x, ⟨d1, d2, d3, d4, d5, d6, d7, d8, d9⟩, Or.inr (by omega)⟩, hfr⟩) d_He_refine_110
        · refine q_iload d_He_refine_39 rfl ?_
          refine q_iload_n d_He_refine_41 rfl ?_
          refine q_aload d_He_refine_42 rfl ?_
          refine q_gi hro.1 pc_Ro 1 (by decide) w_fl_He_156 rfl (by rfl) d_He_refine_44 ?_
          refine q_topi d2 ?_
          refine q_isub d_He_refine_47 ?_
          refine q_mmin (by omega) (by omega) w_ml_He_109 d_He_refine_48 (by decide) (Nat.le_of_ble_eq_true rfl) ?_
          obtain ⟨nw, hnw⟩ : ∃ nw : Nat, (nw : Int) = min W (tg - lev) := ⟨(min W (tg - lev)).toNat, by omega⟩
          refine q_topi hnw.symm ?_
          have hx0 : x = 0 := cx
          rw [hx0] at d5 d6 hca2
          obtain ⟨a1, a2, a3, a4, a5⟩ := d6.in0 hs
          have cm1 : cst σ1 a M F d := hc.mv (by rw [hfr _ (by omega) (by omega)]) (fun q h1 h2 => hfr q (by omega) (by omega))
          have cm2 : d 0 < 9 ∧ σ1 (a + 24) 1 = (d 0 : Int) ∧ ∀ c, c ≤ d 0 → nV σ1 (a + 24 + 2 + 2 * c) 48 (F 0 c) := cm1.2.2 0 (Nat.zero_le _)
          clear hca2
          refine q_ist_7 d_He_refine_51 (by decide) rfl ?_
          refine q_iload d_He_refine_53 rfl ?_
          refine q_iconst d_He_refine_55 rfl ?_
          refine q_icmp_ne (tgt := 77) (by omega) (by omega) d_He_refine_56 (by decide) (fun cn => ?_) (fun cn => ?_)
          · refine q_aload_n d_He_refine_77 rfl ?_
            refine q_aload d_He_refine_78 rfl ?_
            refine q_iload d_He_refine_80 rfl ?_
            refine q_aload_n d_He_refine_82 rfl ?_
            refine q_callV (As := [.ref (a + 153 + 3 * i), vi (nw : Int), .ref B]) (c_He_leap l K (F := F) (d := d) (lev := lev) (ls := ls) (w := nw) hLL hbL hdj hi hg cm1 d1 d2 d3 hz (by omega) (by omega) a5 (by rw [hvv_sg]; exact a3) (by rw [hvv_sg]; exact a4)) w_cd_He_leap w_ini_He w_ml_He_184 w_im_He_leap w_se_He_leap hH0 rfl hd_He_leap rfl (Nat.le_of_ble_eq_true rfl) d_He_refine_83 (by decide) (by decide) (fun v σ2 hp => ?_)
            obtain ⟨hor, k5⟩ := hp
            rcases hor with ⟨rfl, k1, k2⟩ | ⟨rfl, z', x', k0, k1, k2, k3, k4⟩
            · skip
              refine q_if_eq (tgt := 98) (by omega) d_He_refine_86 (by decide) (fun c86 => ?_) (fun c86 => absurd c86 (by omega))
              refine q_iload d_He_refine_98 rfl ?_
              refine q_iconst d_He_refine_100 rfl ?_
              refine q_idiv (by omega) (by omega) (by omega) d_He_refine_101 ?_
              refine q_ist_5 d_He_refine_102 (by decide) rfl ?_
              refine q_iinc_6 d_He_refine_104 (by decide) rfl ?_
              refine q_goto (tgt := 14) d_He_refine_107 (by decide) ?_
              refine q_drop_7 ?_
              have d2' := div2 (x := (nw : Int)) (by omega)
              have hk1 : 1 ≤ k := by
                rcases Nat.eq_zero_or_pos k with h9 | h9
                · subst h9; have : W < 2 := hW3; omega
                · exact h9
              exact ih (k - 1) _ _ σ2 z lev ls 0 ⟨k1, by rw [k2]; exact d2, by rw [k2]; exact d3, by rw [k2]; exact d4, by rw [k2]; exact d5, d6, d7, d8, d9⟩ (fun q h1 h2 => by rw [k5 q h1 h2]; exact hfr q h1 h2) (by omega) (by omega) (by omega) (by omega) (by omega) (by have e8 : (2 : Int) ^ (k + 1) = 2 ^ k * 2 := Int.pow_succ _ _; rw [show k - 1 + 1 = k by omega]; omega)
            · skip
              refine q_if_eq (tgt := 98) (by omega) d_He_refine_86 (by decide) (fun c86 => absurd c86 (by omega)) (fun c86 => ?_)
              refine q_iload d_He_refine_89 rfl ?_
              refine q_iconst d_He_refine_91 rfl ?_
              refine q_imul d_He_refine_92 ?_
              refine q_ist_5 d_He_refine_93 (by decide) rfl ?_
              refine q_goto (tgt := 104) d_He_refine_95 (by decide) ?_
              refine q_iinc_6 d_He_refine_104 (by decide) rfl ?_
              refine q_goto (tgt := 14) d_He_refine_107 (by decide) ?_
              refine q_drop_7 ?_
              have hg9 : ccl (lk F d 0) (cN F d M) i z' (lev + (nw : Int)) ls x' ∧ z' + 1 ≤ (z + 1) * 2 ^ nw := by
                obtain ⟨p1, p2, p3⟩ := k0
                rw [hvv_sg, hvv_sg] at p3
                rcases p3 with ⟨p4, p5⟩ | ⟨p4, p5, p6⟩
                · subst p4; exact d6.sub1 hs p1 p2 p5
                · subst p4; exact d6.sub0 hs p1 p2 p5 p6
              exact ih (k + 1) _ _ σ2 z' (lev + (nw : Int)) ls x' ⟨k1, k2, by rw [k4 _ (by decide) (by decide)]; exact d3, by rw [k4 _ (by decide) (by decide)]; exact d4, k3, hg9.1, by omega, by omega, zin.sub hz d7 k0.1 hg9.2⟩ (fun q h1 h2 => by rw [k5 q h1 h2]; exact hfr q h1 h2) (by omega) (by omega) (by omega) (by omega) (by omega) (by have e8 : (2 : Int) ^ (k + 1 + 1) = 2 ^ (k + 1) * 2 := Int.pow_succ _ _; omega)
            skip
          · refine q_aload_n d_He_refine_59 rfl ?_
            refine q_aload d_He_refine_60 rfl ?_
            refine q_aload_n d_He_refine_62 rfl ?_
            have hmid : hid ((z * 2 ^ 1 + 1).natAbs ≤ 2 ^ (32 + (lev + 1)).toNat) := by
              have h9 : hid _ := gbd (w := 1) (G := z * 2 ^ 1 + 1) hz d7 (by omega) (by omega)
              exact h9
            have hft : hid _ := hg.fit (X := ptX (z * 2 ^ 1 + 1) (lev + 1)) (ex := ptE (lev + 1)) (pt_bd (Lm := LV (d 0)) hmid (by omega) (by omega)) (ptE_le (by omega))
            have hzl : hid ((z.natAbs : Int) < 2147483648 ^ 11) := lim_up (lim_ofI (up_bd d9.lo (show (32 + lev).toNat ≤ 340 by omega))) (by decide)
            refine q_callV (As := [.ref (a + 153 + 3 * i), .ref B]) (c_He_halveAtMiddle l K (n := d 0) (P := F 0) (u := uM (d 0)) (v := vM (d 0)) (c := cM d 0) (w := 11) (lev := lev) (ls := ls) hLL hbL hdj hi cm2.1 cm2.2.1 cm2.2.2 (fun j hj => hg.cb 0 (by omega) j hj) d1 d2 d3 (by omega) hzl (by decide) (by omega) hft.1 (hft.2.1 0 (by omega)) huv (hft.2.2 0 (by omega))) w_cd_He_halveAtMiddle w_ini_He w_ml_He_180 w_im_He_halveAtMiddle w_se_He_halveAtMiddle hH0 rfl hd_He_halveAtMiddle rfl (Nat.le_of_ble_eq_true rfl) d_He_refine_63 (by decide) (by decide) (fun v σ2 hp => ?_)
            obtain ⟨rfl, k1, k2, k3, k4, k5⟩ := hp
            have e9 : (hv (F 0) (d 0) (ptX (z * 2 ^ 1 + 1) (lev + 1)) (ptE (lev + 1)) (d 0 + 1)).sign = sgr (lk F d 0 (dy (z * 2 ^ 1 + 1) (lev + 1))) := hvv_sg F d _ _
            rw [e9] at k1 k3
            have fin : ∀ z' x' : Int, z * 2 ^ 1 + (if sgr (lk F d 0 (dy (z * 2 ^ 1 + 1) (lev + 1))) = 0 ∨ sgr (lk F d 0 (dy (z * 2 ^ 1 + 1) (lev + 1))) = ls then 1 else 0) = z' → (if sgr (lk F d 0 (dy (z * 2 ^ 1 + 1) (lev + 1))) = 0 then (1 : Int) else 0) = x' → ccl (lk F d 0) (cN F d M) i z' (lev + 1) ls x' ∧ z' + 1 ≤ (z + 1) * 2 ^ 1 → z * 2 ^ 1 ≤ z' → hid (cat σ2 a i F d M z' (lev + 1) ls x') := by
              intro z' x' q1 q2 q3 q4
              rw [q1] at k1
              rw [q2] at k3
              exact ⟨k1, k2, by rw [k4 _ (by decide) (by decide)]; exact d3, by rw [k4 _ (by decide) (by decide)]; exact d4, k3, q3.1, by omega, by omega, zin.sub (w := 1) hz d7 q4 q3.2⟩
            have hgo : ∃ z' x' : Int, hid (cat σ2 a i F d M z' (lev + 1) ls x') := by
              have s9 := sgr_b (lk F d 0 (dy (z * 2 ^ 1 + 1) (lev + 1)))
              have e0 : sgr (lk F d 0 (dy (z * 2 ^ 1) (lev + 1))) = ls := by rw [dy_2]; exact a3
              have e2 : sgr (lk F d 0 (dy (z * 2 ^ 1 + 1 + 1) (lev + 1))) = -ls := by rw [show z * 2 ^ 1 + 1 + 1 = (z + 1) * 2 ^ 1 by omega, dy_2]; exact a4
              rcases (show sgr (lk F d 0 (dy (z * 2 ^ 1 + 1) (lev + 1))) = 0 ∨ sgr (lk F d 0 (dy (z * 2 ^ 1 + 1) (lev + 1))) = ls ∨ sgr (lk F d 0 (dy (z * 2 ^ 1 + 1) (lev + 1))) = -ls by omega) with h9 | h9 | h9
              · exact ⟨_, _, fin (z * 2 ^ 1 + 1) 1 (by rw [if_pos (Or.inl h9)]) (if_pos h9) (d6.sub1 (w := 1) hs (by omega) (by omega) h9) (by omega)⟩
              · exact ⟨_, _, fin (z * 2 ^ 1 + 1) 0 (by rw [if_pos (Or.inr h9)]) (if_neg (by omega)) (d6.sub0 (w := 1) hs (by omega) (by omega) h9 e2) (by omega)⟩
              · exact ⟨_, _, fin (z * 2 ^ 1) 0 (by rw [if_neg (by omega), Int.add_zero]) (if_neg (by omega)) (d6.sub0 (w := 1) hs (by omega) (by omega) e0 h9) (by omega)⟩
            obtain ⟨z', x', hg9⟩ := hgo
            clear fin
            refine q_iload d_He_refine_66 rfl ?_
            refine q_iconst d_He_refine_68 rfl ?_
            refine q_mmax (by omega) (by omega) w_ml_He_80 d_He_refine_69 (by decide) (Nat.le_of_ble_eq_true rfl) ?_
            refine q_ist_5 d_He_refine_72 (by decide) rfl ?_
            refine q_goto (tgt := 104) d_He_refine_74 (by decide) ?_
            refine q_iinc_6 d_He_refine_104 (by decide) rfl ?_
            refine q_goto (tgt := 14) d_He_refine_107 (by decide) ?_
            refine q_drop_7 ?_
            exact ih (k + 1) _ _ σ2 z' (lev + 1) ls x' hg9 (fun q h1 h2 => by rw [k5 q (by omega) (by omega)]; exact hfr q h1 h2) (by omega) (by omega) (by omega) (by omega) (by omega) (by have e8 : (2 : Int) ^ (k + 1 + 1) = 2 ^ (k + 1) * 2 := Int.pow_succ _ _; have e7 : (2 : Int) ^ (k + 1) = 2 ^ k * 2 := Int.pow_succ _ _; have e6 := ip_pos (B := 2) (by decide) k; omega)
  refine q_aload_n d_He_refine_0 rfl ?_
  refine q_gr hH0 pc_He 3 (by decide) w_fl_He_35 rfl (by rfl) d_He_refine_1 ?_
  refine q_iload_n d_He_refine_4 rfl ?_
  refine q_aal (i) 6 (b := a + 153 + 3 * i) rfl hrg (by omega) (by omega) (by omega) (hrg2 _ hi) d_He_refine_5 ?_
  refine q_ast_4 d_He_refine_6 (by decide) rfl ?_
  refine q_iconst d_He_refine_8 rfl ?_
  refine q_ist_5 d_He_refine_9 (by decide) rfl ?_
  refine q_iconst d_He_refine_11 rfl ?_
  refine q_ist_6 d_He_refine_12 (by decide) rfl ?_
  obtain ⟨z, lev, ls, x, hca⟩ := hcl
  have hlv := hca.2.2.2.2.2.2.1
  exact loop (2 * (tg - lev).toNat) 0 0 1 σ z lev ls x hca (fun q _ _ => rfl) (by omega) (by omega) (by omega) (by omega) (by omega) (by decide)
