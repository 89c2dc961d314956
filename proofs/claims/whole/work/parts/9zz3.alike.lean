/-! THE REFERENCE: isAlike, apart -/
theorem rce.fo {q : Rat → Rat} {s N : Rat → Int} {c i C x : Int} {j : Nat} (hs : rsx q s N c) (h : rce q N i C j x) (hj : 1 ≤ j) : flo q N i (C - 2 ^ (j - 1)) ((j : Int) - 44) := by
  obtain ⟨-, -, h3⟩ := h
  have e1 := xl_dy C hj
  have e2 : xl C j + wd j = dy (C - 2 ^ (j - 1) + 1) ((j : Int) - 44) := by rw [e1, wd_un, ← dy_s]
  show nm q N _ ≤ i ∧ i < nm q N _
  rw [← e1, ← e2]
  have n1 := nm_N q N (xl C j)
  have n2 := hs.nmm (show xl C j < xl C j + wd j by have := wd_pos j; grind)
  rcases h3 with ⟨-, b1, b2⟩ | ⟨-, b1, b2⟩
  · have := n1.2.2.1 b1
    omega
  · omega
/-- the cell's number, fallen to level n, tells the floor -/
theorem rce.fl {q : Rat → Rat} {s N : Rat → Int} {c i C x : Int} {j n : Nat} (hs : rsx q s N c) (h : rce q N i C j x) (hj : 44 + n ≤ j) : flo q N i (C / 2 ^ (j - 44 - n) - 2 ^ (43 + n)) (n : Int) := by
  have h1 := (h.fo hs (by omega)).down hs.rts (m := (n : Int)) (by omega)
  have e : atl (C - 2 ^ (j - 1)) ((j : Int) - 44) (n : Int) = C / 2 ^ (j - 44 - n) - 2 ^ (43 + n) := by
    unfold atl
    rw [show ((j : Int) - 44 - (n : Int)).toNat = j - 44 - n by omega]
    have hp := ip_pos (B := 2) (by decide) (j - 44 - n)
    have e2 : (2 : Int) ^ (j - 1) = 2 ^ (43 + n) * 2 ^ (j - 44 - n) := by rw [← Int.pow_add]; congr 1; omega
    rw [e2, Int.sub_eq_add_neg, ← Int.neg_mul, Int.add_mul_ediv_right _ _ (by omega)]
    omega
  rw [e] at h1
  exact h1
/-- both roots' floors at level n are one -/
def alk (q : Rat → Rat) (N : Rat → Int) (i n : Int) : Prop := ∃ z, flo q N i z n ∧ flo q N (i + 1) z n
theorem gch.nalk {P : Nat → Int} {n M : Nat} {F : Nat → Nat → Int} {d : Nat → Nat} (h : gch P n M F d) {i lev : Int} (hl : (isoL (d 0) : Int) ≤ lev) : ¬ alk (lk F d 0) (cN F d M) i lev := by
  rintro ⟨z, h1, h2⟩
  have h3 := h.sep (z := z) hl
  have h4 := (nm_N (lk F d 0) (cN F d M) (dy (z + 1) lev)).1
  have := h1.1
  have := h2.2
  omega
theorem lim_l16 {z : Int} (h : (z.natAbs : Int) < 65536 ^ (127 - 1)) : (z.natAbs : Int) < 65536 ^ 1023 := Int.lt_of_lt_of_le h (ip_le (by decide) (by decide))
theorem isoL_le : ∀ m, m ≤ 8 → isoL m ≤ 900 := by unfold isoL fbm; decide +kernel
set_option maxHeartbeats 4000000 in
set_option maxRecDepth 100000 in
theorem c_Mo_isAlike (l : Launch) (K : pw_K) {L : q_L} {σ : q_S} {m p k nn n M : Nat} {P : Nat → Int} {F : Nat → Nat → Int} {d : Nat → Nat} (hL : mL L m) (hp : p < 2) (hk8 : k + 1 < 8) (hg : gch P n M F d) (h1 : 1 ≤ d 0) (hq : mq σ m p F d) (hka : kcl σ m p k F d M 44 1980) (hkb : kcl σ m p (k + 1) F d M 44 1980) (hnn : nn ≤ 900) : q_C l K L y_Mo_isAlike b_Mo_isAlike 5 (some .boolean) 7 [.ref m, vi p, vi ((k + 1 : Nat) : Int), vi nn] σ (fun r σ' => (∃ b : Int, r = some (vi b) ∧ (b = 0 ∨ b = 1) ∧ (b = 1 ↔ alk (lk F d 0) (cN F d M) (k : Int) (nn : Int))) ∧ kcl σ' m p k F d M 44 1980 ∧ kcl σ' m p (k + 1) F d M 44 1980 ∧ (∀ i, i < 8 → i ≠ k → i ≠ k + 1 → kcl σ m p i F d M 44 1980 → kcl σ' m p i F d M 44 1980) ∧ mq σ' m p F d ∧ isoF σ σ' m p ∧ σ' (m + 7) = σ (m + 7)) := by
  have hLL := hL
  obtain ⟨hM0, hM1, hM2, hM3, hM4, hM5, hM6, hM7, hM8, hM9⟩ := hL
  have hcn := hg.cnt
  have hn8 := hg.2.2.1
  obtain ⟨sN, hsN⟩ := hg.rs
  obtain ⟨C, j, x, ha, hj1, hj2⟩ := hka.kat
  refine q_start [some (.ref m), some (vi p), some (vi ((k + 1 : Nat) : Int)), some (vi nn), none] (by decide) (Nat.le_of_ble_eq_true rfl) (fun q h => h) ?_
  refine q_iload_n d_Mo_isAlike_0 rfl ?_
  refine q_iconst d_Mo_isAlike_1 rfl ?_
  refine q_isub d_Mo_isAlike_2 ?_
  refine q_topi (show ((k + 1 : Nat) : Int) - 1 = (k : Int) by omega) ?_
  refine q_ist_4 d_Mo_isAlike_3 (by decide) rfl ?_
  refine q_iload d_Mo_isAlike_5 rfl ?_
  refine q_iload_n d_Mo_isAlike_7 rfl ?_
  refine q_icmp_gt (tgt := 73) (by omega) (by omega) d_Mo_isAlike_8 (by decide) (fun c8 => absurd c8 (by omega)) (fun c8 => ?_)
  refine q_aload_n d_Mo_isAlike_11 rfl ?_
  refine q_iload_n d_Mo_isAlike_12 rfl ?_
  refine q_iload d_Mo_isAlike_13 rfl ?_
  refine q_iload_n d_Mo_isAlike_15 rfl ?_
  refine q_callV (As := [vi p, vi (k : Int), vi nn]) (al_Mo_refinesTo l K (i := k) (f := nn) hLL hp (by omega) hg h1 hq ha (by omega) (by omega)) w_cd_Mo_refinesTo w_ini_Mo w_ml_Mo_159 w_im_Mo_refinesTo w_se_Mo_refinesTo hM0 rfl hd_Mo_refinesTo rfl (Nat.le_of_ble_eq_true rfl) d_Mo_isAlike_16 (by decide) (by decide) (fun v σ1 hp => ?_)
  obtain ⟨rfl, ⟨C1, x1, y1129⟩, y2129⟩ := hp
  have fr129 := hg.fitR y1129.2.2.2.1 y1129.2.2.2.2.1 (by omega)
  refine q_aload_n d_Mo_isAlike_19 rfl ?_
  refine q_sipush d_Mo_isAlike_20 (by decide) ?_
  refine q_iload d_Mo_isAlike_23 rfl ?_
  refine q_iadd d_Mo_isAlike_25 ?_
  refine q_iload_n d_Mo_isAlike_26 rfl ?_
  refine q_isub d_Mo_isAlike_27 ?_
  refine q_topi (show (130 : Int) + (k : Int) - ((k + 1 : Nat) : Int) = ((129 : Nat) : Int) by omega) ?_
  refine q_aload_n d_Mo_isAlike_28 rfl ?_
  refine q_iload_n d_Mo_isAlike_29 rfl ?_
  refine q_iload d_Mo_isAlike_30 rfl ?_
  refine q_callV (As := [vi p, vi (k : Int)]) (c_Mo_cell l K (m := m) (p := p) (i := k) hp (by omega)) w_cd_Mo_cell w_ini_Mo w_ml_Mo_115 w_im_Mo_cell w_se_Mo_cell hM0 rfl hd_Mo_cell rfl (Nat.le_of_ble_eq_true rfl) d_Mo_isAlike_32 (by decide) (by decide) (fun v σ9 hp => ?_)
  obtain ⟨rfl, hσ⟩ := hp
  rw [hσ]
  clear hσ σ9
  refine q_callV (As := [vi ((129 : Nat) : Int), vi ((140 + 8 * p + k : Nat) : Int)]) (c_Mo_copy l K (r := 129) (i := 140 + 8 * p + k) hLL (by decide) (by omega) y1129.1) w_cd_Mo_copy w_ini_Mo w_ml_Mo_69 w_im_Mo_copy w_se_Mo_copy hM0 rfl hd_Mo_copy rfl (Nat.le_of_ble_eq_true rfl) d_Mo_isAlike_35 (by decide) (by decide) (fun v σ2 hp => ?_)
  obtain ⟨rfl, y3129, y4129, -, y5129⟩ := hp
  refine q_aload_n d_Mo_isAlike_38 rfl ?_
  refine q_sipush d_Mo_isAlike_39 (by decide) ?_
  refine q_iload d_Mo_isAlike_42 rfl ?_
  refine q_iadd d_Mo_isAlike_44 ?_
  refine q_iload_n d_Mo_isAlike_45 rfl ?_
  refine q_isub d_Mo_isAlike_46 ?_
  refine q_topi (show (130 : Int) + (k : Int) - ((k + 1 : Nat) : Int) = ((129 : Nat) : Int) by omega) ?_
  refine q_aload_n d_Mo_isAlike_47 rfl ?_
  refine q_gr hM0 pc_Mo 5 (by decide) w_fl_Mo_23 rfl (by rfl) d_Mo_isAlike_48 ?_
  refine q_bipush d_Mo_isAlike_51 (by decide) ?_
  refine q_iload_n d_Mo_isAlike_53 rfl ?_
  refine q_imul d_Mo_isAlike_54 ?_
  refine q_iload d_Mo_isAlike_55 rfl ?_
  refine q_iadd d_Mo_isAlike_57 ?_
  refine q_ial (8 * p + k) (by assumption) (by omega) (by omega) (by omega) d_Mo_isAlike_58 ?_
  refine q_topi (show _ = (((j + (44 + nn - j)) : Nat) : Int) by rw [y4129 (m + 5) (by omega) (by omega) (by omega) (by omega)]; exact y1129.2.1) ?_
  refine q_bipush d_Mo_isAlike_59 (by decide) ?_
  refine q_isub d_Mo_isAlike_61 ?_
  refine q_iload_n d_Mo_isAlike_62 rfl ?_
  refine q_isub d_Mo_isAlike_63 ?_
  refine q_topi (show (((j + (44 + nn - j)) : Nat) : Int) - 44 - (nn : Int) = (((j + (44 + nn - j)) - 44 - nn : Nat) : Int) by omega) ?_
  refine q_callV (As := [vi ((129 : Nat) : Int), vi (((j + (44 + nn - j)) - 44 - nn : Nat) : Int)]) (c_Mo_falls l K (a := 129) (f := (j + (44 + nn - j)) - 44 - nn) hLL (by decide) (by decide) y3129 (by omega) (lim_l16 fr129.1)) w_cd_Mo_falls w_ini_Mo w_ml_Mo_186 w_im_Mo_falls w_se_Mo_falls hM0 rfl hd_Mo_falls rfl (Nat.le_of_ble_eq_true rfl) d_Mo_isAlike_64 (by decide) (by decide) (fun v σ3 hp => ?_)
  obtain ⟨rfl, y6129, y7129, y8129⟩ := hp
  refine q_iinc_4 d_Mo_isAlike_67 (by decide) rfl ?_
  refine q_goto (tgt := 5) d_Mo_isAlike_70 (by decide) ?_
  rw [show (k : Int) + 1 = ((k + 1 : Nat) : Int) by omega]
  have s2 : scr σ1 σ2 m := ⟨y4129, fun r h => y5129 r (by omega)⟩
  have s3 : scr σ2 σ3 m := ⟨y7129, fun r h => y8129 r (by omega) (by omega)⟩
  have i3 : isoF σ σ3 m p := ((y2129.iso hp (by omega)).trans s2.iso).trans s3.iso
  have m3 : mq σ3 m p F d := ((y2129.mq hp (by omega) hp hq).scr hp (by omega) s2).scr hp (by omega) s3
  have a3 : kcl σ3 m p k F d M 44 1980 := ((y1129.kcl (lo := 44) (hi := 1980) (by omega) (by omega)).scr s2).scr s3
  have o3 : ∀ i, i < 8 → i ≠ k → kcl σ m p i F d M 44 1980 → kcl σ3 m p i F d M 44 1980 := fun i h8 hne hh => ((y2129.cl hp hp (by omega) h8 (Or.inr hne) hh).scr s2).scr s3
  have fl1 := (y1129.2.2.2).fl (n := nn) hsN (by omega)
  obtain ⟨Cb, jb, xb, hb, hjb1, hjb2⟩ := (o3 (k + 1) (by omega) (by omega) hkb).kat
  refine q_iload d_Mo_isAlike_5 rfl ?_
  refine q_iload_n d_Mo_isAlike_7 rfl ?_
  refine q_icmp_gt (tgt := 73) (by omega) (by omega) d_Mo_isAlike_8 (by decide) (fun c8 => absurd c8 (by omega)) (fun c8 => ?_)
  refine q_aload_n d_Mo_isAlike_11 rfl ?_
  refine q_iload_n d_Mo_isAlike_12 rfl ?_
  refine q_iload d_Mo_isAlike_13 rfl ?_
  refine q_iload_n d_Mo_isAlike_15 rfl ?_
  refine q_callV (As := [vi p, vi ((k + 1 : Nat) : Int), vi nn]) (al_Mo_refinesTo l K (i := (k + 1)) (f := nn) hLL hp (by omega) hg h1 m3 hb (by omega) (by omega)) w_cd_Mo_refinesTo w_ini_Mo w_ml_Mo_159 w_im_Mo_refinesTo w_se_Mo_refinesTo hM0 rfl hd_Mo_refinesTo rfl (Nat.le_of_ble_eq_true rfl) d_Mo_isAlike_16 (by decide) (by decide) (fun v σ4 hp => ?_)
  obtain ⟨rfl, ⟨C2, x2, y1130⟩, y2130⟩ := hp
  have fr130 := hg.fitR y1130.2.2.2.1 y1130.2.2.2.2.1 (by omega)
  refine q_aload_n d_Mo_isAlike_19 rfl ?_
  refine q_sipush d_Mo_isAlike_20 (by decide) ?_
  refine q_iload d_Mo_isAlike_23 rfl ?_
  refine q_iadd d_Mo_isAlike_25 ?_
  refine q_iload_n d_Mo_isAlike_26 rfl ?_
  refine q_isub d_Mo_isAlike_27 ?_
  refine q_topi (show (130 : Int) + ((k + 1 : Nat) : Int) - ((k + 1 : Nat) : Int) = ((130 : Nat) : Int) by omega) ?_
  refine q_aload_n d_Mo_isAlike_28 rfl ?_
  refine q_iload_n d_Mo_isAlike_29 rfl ?_
  refine q_iload d_Mo_isAlike_30 rfl ?_
  refine q_callV (As := [vi p, vi ((k + 1 : Nat) : Int)]) (c_Mo_cell l K (m := m) (p := p) (i := (k + 1)) hp (by omega)) w_cd_Mo_cell w_ini_Mo w_ml_Mo_115 w_im_Mo_cell w_se_Mo_cell hM0 rfl hd_Mo_cell rfl (Nat.le_of_ble_eq_true rfl) d_Mo_isAlike_32 (by decide) (by decide) (fun v σ9 hp => ?_)
  obtain ⟨rfl, hσ⟩ := hp
  rw [hσ]
  clear hσ σ9
  refine q_callV (As := [vi ((130 : Nat) : Int), vi ((140 + 8 * p + (k + 1) : Nat) : Int)]) (c_Mo_copy l K (r := 130) (i := 140 + 8 * p + (k + 1)) hLL (by decide) (by omega) y1130.1) w_cd_Mo_copy w_ini_Mo w_ml_Mo_69 w_im_Mo_copy w_se_Mo_copy hM0 rfl hd_Mo_copy rfl (Nat.le_of_ble_eq_true rfl) d_Mo_isAlike_35 (by decide) (by decide) (fun v σ5 hp => ?_)
  obtain ⟨rfl, y3130, y4130, -, y5130⟩ := hp
  refine q_aload_n d_Mo_isAlike_38 rfl ?_
  refine q_sipush d_Mo_isAlike_39 (by decide) ?_
  refine q_iload d_Mo_isAlike_42 rfl ?_
  refine q_iadd d_Mo_isAlike_44 ?_
  refine q_iload_n d_Mo_isAlike_45 rfl ?_
  refine q_isub d_Mo_isAlike_46 ?_
  refine q_topi (show (130 : Int) + ((k + 1 : Nat) : Int) - ((k + 1 : Nat) : Int) = ((130 : Nat) : Int) by omega) ?_
  refine q_aload_n d_Mo_isAlike_47 rfl ?_
  refine q_gr hM0 pc_Mo 5 (by decide) w_fl_Mo_23 rfl (by rfl) d_Mo_isAlike_48 ?_
  refine q_bipush d_Mo_isAlike_51 (by decide) ?_
  refine q_iload_n d_Mo_isAlike_53 rfl ?_
  refine q_imul d_Mo_isAlike_54 ?_
  refine q_iload d_Mo_isAlike_55 rfl ?_
  refine q_iadd d_Mo_isAlike_57 ?_
  refine q_ial (8 * p + (k + 1)) (by assumption) (by omega) (by omega) (by omega) d_Mo_isAlike_58 ?_
  refine q_topi (show _ = (((jb + (44 + nn - jb)) : Nat) : Int) by rw [y4130 (m + 5) (by omega) (by omega) (by omega) (by omega)]; exact y1130.2.1) ?_
  refine q_bipush d_Mo_isAlike_59 (by decide) ?_
  refine q_isub d_Mo_isAlike_61 ?_
  refine q_iload_n d_Mo_isAlike_62 rfl ?_
  refine q_isub d_Mo_isAlike_63 ?_
  refine q_topi (show (((jb + (44 + nn - jb)) : Nat) : Int) - 44 - (nn : Int) = (((jb + (44 + nn - jb)) - 44 - nn : Nat) : Int) by omega) ?_
  refine q_callV (As := [vi ((130 : Nat) : Int), vi (((jb + (44 + nn - jb)) - 44 - nn : Nat) : Int)]) (c_Mo_falls l K (a := 130) (f := (jb + (44 + nn - jb)) - 44 - nn) hLL (by decide) (by decide) y3130 (by omega) (lim_l16 fr130.1)) w_cd_Mo_falls w_ini_Mo w_ml_Mo_186 w_im_Mo_falls w_se_Mo_falls hM0 rfl hd_Mo_falls rfl (Nat.le_of_ble_eq_true rfl) d_Mo_isAlike_64 (by decide) (by decide) (fun v σ6 hp => ?_)
  obtain ⟨rfl, y6130, y7130, y8130⟩ := hp
  refine q_iinc_4 d_Mo_isAlike_67 (by decide) rfl ?_
  refine q_goto (tgt := 5) d_Mo_isAlike_70 (by decide) ?_
  have s5 : scr σ4 σ5 m := ⟨y4130, fun r h => y5130 r (by omega)⟩
  have s6 : scr σ5 σ6 m := ⟨y7130, fun r h => y8130 r (by omega) (by omega)⟩
  have i6 : isoF σ σ6 m p := ((i3.trans (y2130.iso hp (by omega))).trans s5.iso).trans s6.iso
  have s76 : σ6 (m + 7) = σ (m + 7) := by rw [y7130 (m + 7) (by omega) (by omega) (by omega) (by omega), y4130 (m + 7) (by omega) (by omega) (by omega) (by omega), y2130.1 (m + 7) (by omega) (by omega) (by omega) (by omega) (by omega) (by omega) (by omega), y7129 (m + 7) (by omega) (by omega) (by omega) (by omega), y4129 (m + 7) (by omega) (by omega) (by omega) (by omega), y2129.1 (m + 7) (by omega) (by omega) (by omega) (by omega) (by omega) (by omega) (by omega)]
  have m6 : mq σ6 m p F d := ((y2130.mq hp (by omega) hp m3).scr hp (by omega) s5).scr hp (by omega) s6
  have b6 : kcl σ6 m p (k + 1) F d M 44 1980 := ((y1130.kcl (lo := 44) (hi := 1980) (by omega) (by omega)).scr s5).scr s6
  have o6 : ∀ i, i < 8 → i ≠ k + 1 → kcl σ3 m p i F d M 44 1980 → kcl σ6 m p i F d M 44 1980 := fun i h8 hne hh => ((y2130.cl hp hp (by omega) h8 (Or.inr hne) hh).scr s5).scr s6
  have fl2 := (y1130.2.2.2).fl (n := nn) hsN (by omega)
  have r129 : rV σ6 m 129 (C1 / 2 ^ (j + (44 + nn - j) - 44 - nn)) := ((y6129.mv (y2130.2.2.2 _ (by omega) (by omega) (by omega))).mv (y5130 _ (by decide))).mv (y8130 _ (by decide) (by decide))
  have p1 : 0 ≤ C1 / 2 ^ (j + (44 + nn - j) - 44 - nn) := Int.ediv_nonneg y1129.2.2.2.1 (Int.le_of_lt (ip_pos (by decide) _))
  have p2 : 0 ≤ C2 / 2 ^ (jb + (44 + nn - jb) - 44 - nn) := Int.ediv_nonneg y1130.2.2.2.1 (Int.le_of_lt (ip_pos (by decide) _))
  generalize C1 / 2 ^ (j + (44 + nn - j) - 44 - nn) = v1 at *
  generalize C2 / 2 ^ (jb + (44 + nn - jb) - 44 - nn) = v2 at *
  have hal : v1 = v2 ↔ alk (lk F d 0) (cN F d M) (k : Int) (nn : Int) := by
    rw [show ((k + 1 : Nat) : Int) = (k : Int) + 1 by omega] at fl2
    constructor
    · intro h9; rw [h9] at fl1; exact ⟨_, fl1, fl2⟩
    · rintro ⟨z, z1, z2⟩
      have u1 := fl1.uniq hsN.rts z1
      have u2 := fl2.uniq hsN.rts z2
      omega
  refine q_iload d_Mo_isAlike_5 rfl ?_
  refine q_iload_n d_Mo_isAlike_7 rfl ?_
  refine q_icmp_gt (tgt := 73) (by omega) (by omega) d_Mo_isAlike_8 (by decide) (fun c8 => ?_) (fun c8 => absurd c8 (by omega))
  refine q_aload_n d_Mo_isAlike_73 rfl ?_
  refine q_sipush d_Mo_isAlike_74 (by decide) ?_
  refine q_sipush d_Mo_isAlike_77 (by decide) ?_
  refine q_callV (As := [vi 129, vi 130]) (c_Mo_against l K (i := 129) (j := 130) hLL (by decide) (by decide) r129 y6130) w_cd_Mo_against w_ini_Mo w_ml_Mo_49 w_im_Mo_against w_se_Mo_against hM0 rfl hd_Mo_against rfl (Nat.le_of_ble_eq_true rfl) d_Mo_isAlike_80 (by decide) (by decide) (fun v σ9 hp => ?_)
  obtain ⟨rfl, hσ⟩ := hp
  rw [hσ]
  clear hσ σ9
  have hsb := Int.sign_trichotomy ((v1.natAbs : Int) - v2.natAbs)
  have hs0 : ((v1.natAbs : Int) - v2.natAbs).sign = 0 ↔ v1 = v2 := by rw [Int.sign_eq_zero_iff_zero]; omega
  refine q_if_ne (tgt := 90) (by omega) d_Mo_isAlike_83 (by decide) (fun cz => ?_) (fun cz => ?_)
  · refine q_iconst d_Mo_isAlike_90 rfl ?_
    exact q_zret rfl (by omega) (⟨⟨_, rfl, Or.inl rfl, ⟨fun h => absurd h (by decide), fun h => absurd (hs0.2 (hal.2 h)) cz⟩⟩, o6 k (by omega) (by omega) a3, b6, fun i h8 h9 h10 hh => o6 i h8 h10 (o3 i h8 h9 hh), m6, i6, s76⟩) d_Mo_isAlike_91
  · refine q_iconst d_Mo_isAlike_86 rfl ?_
    refine q_goto (tgt := 91) d_Mo_isAlike_87 (by decide) ?_
    exact q_zret rfl (by omega) (⟨⟨_, rfl, Or.inr rfl, ⟨fun _ => hal.1 (hs0.1 (by omega)), fun _ => rfl⟩⟩, o6 k (by omega) (by omega) a3, b6, fun i h8 h9 h10 hh => o6 i h8 h10 (o3 i h8 h9 hh), m6, i6, s76⟩) d_Mo_isAlike_91
