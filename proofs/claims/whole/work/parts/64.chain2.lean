/-! CHAIN: changesFar, realRoots -/
/-- how often the sign changes along the first k, and the latest sign that isn't 0 -/
def vr (s : Nat → Int) : Nat → Int × Int
  | 0 => (0, 0)
  | k + 1 => if s k = 0 then vr s k else ((vr s k).1 + (if (vr s k).2 = -(s k) then 1 else 0), s k)
theorem vr_r {s : Nat → Int} (hs : ∀ k, -1 ≤ s k ∧ s k ≤ 1) : ∀ k, 0 ≤ (vr s k).1 ∧ (vr s k).1 ≤ k ∧ -1 ≤ (vr s k).2 ∧ (vr s k).2 ≤ 1 := by
  intro k
  induction k with
  | zero => simp [vr]
  | succ k ih =>
    have := hs k
    rw [vr]
    split
    · omega
    · simp only
      split <;> omega
/-- the leading sign, far below 0 if w < 0 -/
def fs (w : Int) (dn : Nat) (c : Int) : Int := if dn = 0 then 0 else if w < 0 ∧ dn % 2 = 0 then -c.sign else c.sign
theorem od_tm (d : Nat) : (((d : Int) - 1).tmod 2 = 0 ↔ (¬ d = 0 ∧ ¬ d % 2 = 0)) ∧ -1 ≤ ((d : Int) - 1).tmod 2 ∧ ((d : Int) - 1).tmod 2 ≤ 1 := by
  rcases Nat.eq_zero_or_pos d with h | h
  · subst h; decide
  · rw [Int.tmod_eq_emod_of_nonneg (by omega)]; omega
theorem fs_r (w : Int) (dn : Nat) (c : Int) : -1 ≤ fs w dn c ∧ fs w dn c ≤ 1 := by
  have := sg3 c
  unfold fs
  split
  · omega
  · split <;> omega
set_option maxHeartbeats 4000000 in
set_option maxRecDepth 100000 in
theorem c_Ch_changesFar (l : Launch) (K : pw_K) {L : q_L} {σ : q_S} {a h n : Nat} {w : Int} {dn : Nat → Nat} {P : Nat → Nat → Int} (hL : chL L a h) (hn : σ a 1 = n) (hn1 : n ≤ 10) (hw : w = 1 ∨ w = -1) (hdn : ∀ k, k < n → dn k ≤ chN h k) (hdeg : ∀ k, k < n → σ (a + chO h k) 1 = (dn k : Int) - 1) (hP : ∀ k, k < n → ∀ i, i < dn k → nV σ (a + chO h k + 2 + 2 * i) 48 (P k i)) : q_C l K L y_Ch_changesFar b_Ch_changesFar 6 (some .int) 1 [.ref a, vi w] σ (fun v σ' => v = some (vi (vr (fun k => fs w (dn k) (P k (dn k - 1))) n).1) ∧ σ' = σ) := by
  obtain ⟨hc0, ⟨g, hg1, hg2⟩, hpl⟩ := hL
  refine q_start [some (.ref a), some (vi w), none, none, none, none] (by decide) (Nat.le_of_ble_eq_true rfl) (fun q h => h) ?_
  have loop : ∀ (d k : Nat), k + d = n → ∀ t : Int, t = k → q_T l K L R_Ch b_Ch_changesFar 6 (some .int) 1 (fun v σ' => v = some (vi (vr (fun k => fs w (dn k) (P k (dn k - 1))) n).1) ∧ σ' = σ) 7 [some (.ref a), some (vi w), some (vi (vr (fun k => fs w (dn k) (P k (dn k - 1))) k).1), some (vi (vr (fun k => fs w (dn k) (P k (dn k - 1))) k).2), some (vi t), none] [] σ := by
    intro d
    induction d with
    | zero =>
      intro k hk t ht
      refine q_iload d_Ch_changesFar_7 rfl ?_
      refine q_aload_n d_Ch_changesFar_9 rfl ?_
      refine q_gi hc0 pc_Ch 1 (by decide) w_fl_Ch_18 rfl (by rfl) d_Ch_changesFar_10 ?_
      refine q_topi hn ?_
      refine q_icmp_ge (tgt := 81) (by omega) (by omega) d_Ch_changesFar_13 (by decide) (fun c13 => ?_) (fun c13 => absurd c13 (by omega))
      refine q_iload_n d_Ch_changesFar_81 rfl ?_
      exact q_iret rfl (⟨by rw [show n = k by omega], rfl⟩) d_Ch_changesFar_82
    | succ d ih =>
      intro k hk t ht
      refine q_iload d_Ch_changesFar_7 rfl ?_
      refine q_aload_n d_Ch_changesFar_9 rfl ?_
      refine q_gi hc0 pc_Ch 1 (by decide) w_fl_Ch_18 rfl (by rfl) d_Ch_changesFar_10 ?_
      refine q_topi hn ?_
      refine q_icmp_ge (tgt := 81) (by omega) (by omega) d_Ch_changesFar_13 (by decide) (fun c13 => absurd c13 (by omega)) (fun c13 => ?_)
      have h52 : q_T l K L R_Ch b_Ch_changesFar 6 (some .int) 1 (fun v σ' => v = some (vi (vr (fun k => fs w (dn k) (P k (dn k - 1))) n).1) ∧ σ' = σ) 52 [some (.ref a), some (vi w), some (vi (vr (fun k => fs w (dn k) (P k (dn k - 1))) k).1), some (vi (vr (fun k => fs w (dn k) (P k (dn k - 1))) k).2), some (vi t), some (vi (fs w (dn k) (P k (dn k - 1))))] [] σ := by
        have r1 := vr_r (s := (fun k => fs w (dn k) (P k (dn k - 1)))) (fun k => fs_r w (dn k) (P k (dn k - 1))) k
        have r2 := fs_r w (dn k) (P k (dn k - 1))
        have nxt : ∀ {x y : Int}, vr (fun k => fs w (dn k) (P k (dn k - 1))) (k + 1) = (x, y) → ∀ t' : Int, t' = (k : Int) + 1 → q_T l K L R_Ch b_Ch_changesFar 6 (some .int) 1 (fun v σ' => v = some (vi (vr (fun k => fs w (dn k) (P k (dn k - 1))) n).1) ∧ σ' = σ) 7 [some (.ref a), some (vi w), some (vi x), some (vi y), some (vi t'), none] [] σ := by
          intro x y hxy t' ht'
          have := ih (k + 1) (by omega) t' (by omega)
          rw [hxy] at this
          exact this
        refine q_iload d_Ch_changesFar_52 rfl ?_
        refine q_if_eq (tgt := 75) (by omega) d_Ch_changesFar_54 (by decide) (fun cz => ?_) (fun cz => ?_)
        · refine q_iinc_4 d_Ch_changesFar_75 (by decide) rfl ?_
          refine q_goto (tgt := 7) d_Ch_changesFar_78 (by decide) ?_
          refine q_drop_5 ?_
          exact nxt (by rw [vr, if_pos cz]) _ (by omega)
        · refine q_iload_n d_Ch_changesFar_57 rfl ?_
          refine q_iload_n d_Ch_changesFar_58 rfl ?_
          refine q_iload d_Ch_changesFar_59 rfl ?_
          refine q_ineg d_Ch_changesFar_61 ?_
          refine q_jn2 (V := if (vr (fun k => fs w (dn k) (P k (dn k - 1))) k).2 = -(fs w (dn k) (P k (dn k - 1))) then 1 else 0) 70 (fun jn => ?_) ?_
          · refine q_icmp_ne (tgt := 69) (by omega) (by omega) d_Ch_changesFar_62 (by decide) (fun cb => ?_) (fun cb => ?_)
            · refine q_iconst d_Ch_changesFar_69 rfl ?_
              exact jn _ ((if_neg cb).symm)
            · refine q_iconst d_Ch_changesFar_65 rfl ?_
              refine q_goto (tgt := 70) d_Ch_changesFar_66 (by decide) ?_
              exact jn _ ((if_pos cb).symm)
          · refine q_iadd d_Ch_changesFar_70 ?_
            refine q_ist_n_2 d_Ch_changesFar_71 (by decide) rfl ?_
            refine q_iload d_Ch_changesFar_72 rfl ?_
            refine q_ist_n_3 d_Ch_changesFar_74 (by decide) rfl ?_
            refine q_iinc_4 d_Ch_changesFar_75 (by decide) rfl ?_
            refine q_goto (tgt := 7) d_Ch_changesFar_78 (by decide) ?_
            refine q_drop_5 ?_
            exact nxt (by rw [vr, if_neg cz]) _ (by omega)
      have hpk := hpl k (by omega)
      have rt := od_tm (dn k)
      have r3 := sg3 (P k (dn k - 1))
      have r4 : -1 ≤ (if dn k = 0 then (0 : Int) else (P k (dn k - 1)).sign) ∧ (if dn k = 0 then (0 : Int) else (P k (dn k - 1)).sign) ≤ 1 := by split <;> omega
      refine q_aload_n d_Ch_changesFar_16 rfl ?_
      refine q_gr hc0 pc_Ch 0 (by decide) w_fl_Ch_11 rfl (by rfl) d_Ch_changesFar_17 ?_
      refine q_iload d_Ch_changesFar_20 rfl ?_
      refine q_aal (k) 5 (b := a + chO h k) rfl hg1 (by omega) (by omega) (by omega) (hg2 k (by omega)) d_Ch_changesFar_22 ?_
      refine q_callV (As := []) (c_Py_leadSign l K (n := dn k) (P := P k) hpk (hdn k (by omega)) (hdeg k (by omega)) (hP k (by omega))) w_cd_Py_leadSign w_ini_Py w_ml_Ch_128 w_im_Py_leadSign w_se_Py_leadSign hpk.1 rfl hd_Py_leadSign rfl (Nat.le_of_ble_eq_true rfl) d_Ch_changesFar_23 (by decide) (by decide) (fun v σ9 hp => ?_)
      obtain ⟨rfl, hσ⟩ := hp
      rw [hσ]
      clear hσ σ9
      refine q_ist_5 d_Ch_changesFar_26 (by decide) rfl ?_
      refine q_iload_n d_Ch_changesFar_28 rfl ?_
      refine q_if_ge (tgt := 52) (by omega) d_Ch_changesFar_29 (by decide) (fun cw => ?_) (fun cw => ?_)
      · refine q_lvs (fun q hq => by rw [show fs w (dn k) (P k (dn k - 1)) = (if dn k = 0 then (0 : Int) else (P k (dn k - 1)).sign) by unfold fs; split; rfl; rw [if_neg (by omega)]] at hq; exact hq) h52
      · refine q_aload_n d_Ch_changesFar_32 rfl ?_
        refine q_gr hc0 pc_Ch 0 (by decide) w_fl_Ch_11 rfl (by rfl) d_Ch_changesFar_33 ?_
        refine q_iload d_Ch_changesFar_36 rfl ?_
        refine q_aal (k) 5 (b := a + chO h k) rfl hg1 (by omega) (by omega) (by omega) (hg2 k (by omega)) d_Ch_changesFar_38 ?_
        refine q_gi hpk.1 pc_Py 1 (by decide) w_fl_Ch_35 rfl (by rfl) d_Ch_changesFar_39 ?_
        refine q_topi (hdeg k (by omega)) ?_
        refine q_iconst d_Ch_changesFar_42 rfl ?_
        refine q_irem (by have := hdn k (by omega); have := hpk.2.2.2; omega) (by omega) (by omega) d_Ch_changesFar_43 ?_
        refine q_if_eq (tgt := 52) (by have := rt.2; omega) d_Ch_changesFar_44 (by decide) (fun cr => ?_) (fun cr => ?_)
        · refine q_lvs (fun q hq => by rw [show fs w (dn k) (P k (dn k - 1)) = (if dn k = 0 then (0 : Int) else (P k (dn k - 1)).sign) by unfold fs; split; rfl; rw [if_neg (fun c => absurd c.2 (rt.1.mp cr).2)]] at hq; exact hq) h52
        · refine q_iload d_Ch_changesFar_47 rfl ?_
          refine q_ineg d_Ch_changesFar_49 ?_
          refine q_ist_5 d_Ch_changesFar_50 (by decide) rfl ?_
          refine q_lvs (fun q hq => by rw [show fs w (dn k) (P k (dn k - 1)) = -(if dn k = 0 then (0 : Int) else (P k (dn k - 1)).sign) by unfold fs; split; rfl; rw [if_pos ⟨by omega, Decidable.byContradiction (fun hh => cr (rt.1.mpr ⟨by assumption, hh⟩))⟩]] at hq; exact hq) h52
  refine q_iconst d_Ch_changesFar_0 rfl ?_
  refine q_ist_n_2 d_Ch_changesFar_1 (by decide) rfl ?_
  refine q_iconst d_Ch_changesFar_2 rfl ?_
  refine q_ist_n_3 d_Ch_changesFar_3 (by decide) rfl ?_
  refine q_iconst d_Ch_changesFar_4 rfl ?_
  refine q_ist_4 d_Ch_changesFar_5 (by decide) rfl ?_
  exact loop n 0 (by omega) _ rfl
