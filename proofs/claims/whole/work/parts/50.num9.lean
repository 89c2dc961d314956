/-! numberOfLeadingZeros, bitLength -/
theorem w_k_In_264 : Cond.constant R_In 264 65536 ∈ lw_G := lw_g4 106 rfl rfl
theorem q_ldcw {l : Launch} {K : pw_K} {L : q_L} {own : String} {cc : ByteArray} {nL : Nat} {ret : Option FieldType} {d : Nat} {post : Option Value → q_S → Prop} {pc : Nat} {lv : List (Option Value)} {st : List Value} {σ : q_S} {index : Nat} {v : Int32} {z : Int} (hk : Cond.constant own index v ∈ lw_G) (hv : v = Int32.ofInt z) (hdg : decode cc pc = .ok (.ldc_w index, 3)) (kk : q_T l K L own cc nL ret d post (pc + 3) lv (vi z :: st) σ) : q_T l K L own cc nL ret d post pc lv st σ := by
  intro p e s m args below meth c H locs ls f f0 sz X hr hz hS ha hf hl
  subst hv
  exact lv_ldcw X.1 X.2.1 X.2.2.2.1 (X.2.2.2.2.1 _ hk) hdg (kk _ _ _ _ _ _ _ _ _ _ _ _ _ _ X hr hz hS ha hf hl)
theorem q_cntI : ∀ p : Fin 31, ((Int32.ofInt ((p.val : Nat) : Int)).toUInt32 &&& Int32.toUInt32 31).toBitVec % 32 = BitVec.ofNat 32 p.val := by decide +kernel
theorem q_iushrP {y : Int} {p : Nat} (hy : 0 ≤ y ∧ y < 2147483648) (hp : p < 31) : ((Int32.ofInt y).toUInt32 >>> ((Int32.ofInt (p : Int)).toUInt32 &&& Int32.toUInt32 31)).toInt32 = Int32.ofInt (y / 2 ^ p) := by
  obtain ⟨m, rfl⟩ : ∃ m : Nat, y = m := ⟨y.toNat, by omega⟩
  rw [show ((m : Int) / 2 ^ p) = ((m / 2 ^ p : Nat) : Int) by simp]
  apply Int32.toBitVec_inj.mp
  have hc := q_cntI ⟨p, hp⟩
  simp only at hc
  have e : ((nI m).toUInt32 >>> ((Int32.ofInt (p : Int)).toUInt32 &&& Int32.toUInt32 31)).toInt32.toBitVec = (nI m).toBitVec >>> (((Int32.ofInt ((p : Nat) : Int)).toUInt32 &&& Int32.toUInt32 31).toBitVec % 32) := UInt32.toBitVec_shiftRight _ _
  refine Eq.trans e ?_
  rw [hc]
  apply BitVec.eq_of_toNat_eq
  have h2 : m / 2 ^ p < 2 ^ 32 := Nat.lt_of_le_of_lt (Nat.div_le_self _ _) (by omega)
  refine Eq.trans ?_ (pk_tn h2).symm
  rw [BitVec.ushiftRight_eq', BitVec.toNat_ofNat, Nat.mod_eq_of_lt (show p < 2 ^ 32 by omega), BitVec.toNat_ushiftRight, Nat.shiftRight_eq_div_pow]
  congr 1
  exact pk_tn (show m < 2 ^ 32 by omega)
/-- y is x without its lowest s bits -/
def bs (x y : Int) (s : Nat) : Prop := 2 ^ s * y ≤ x ∧ x < 2 ^ s * (y + 1)
theorem bs.next {x y : Int} {s : Nat} (h : bs x y s) (k : Nat) : bs x (y / 2 ^ k) (s + k) := by
  have hk := ip_pos (B := 2) (by decide) k
  have hs := ip_pos (B := 2) (by decide) s
  have h1 := Int.mul_ediv_add_emod y (2 ^ k)
  have h2 := Int.emod_nonneg y (show (2 : Int) ^ k ≠ 0 by omega)
  have h3 := Int.emod_lt_of_pos y hk
  have h4 := Int.mul_le_mul_of_nonneg_left (show 2 ^ k * (y / 2 ^ k) ≤ y by omega) (Int.le_of_lt hs)
  have h5 := Int.mul_le_mul_of_nonneg_left (show y + 1 ≤ 2 ^ k * (y / 2 ^ k) + 2 ^ k by omega) (Int.le_of_lt hs)
  obtain ⟨h6, h7⟩ := h
  constructor
  · rw [Int.pow_add, Int.mul_assoc]; omega
  · rw [Int.pow_add, Int.mul_assoc, Int.mul_add (2 ^ k), Int.mul_one]; omega
set_option maxHeartbeats 4000000 in
set_option maxRecDepth 100000 in
theorem c_In_nlz (l : Launch) (K : pw_K) (L : q_L) (σ : q_S) {x : Int} (hx : 0 < x ∧ x < 2147483648) : q_C l K L y_In_numberOfLeadingZeros b_In_numberOfLeadingZeros 2 (some .int) 0 [vi x] σ (fun v σ' => (∃ b : Nat, b ≤ 30 ∧ v = some (vi (31 - (b : Int))) ∧ 2 ^ b ≤ x ∧ x < 2 ^ (b + 1)) ∧ σ' = σ) := by
  refine q_start [some (vi x), none] (by decide) (Nat.le_of_ble_eq_true rfl) (fun q h => h) ?_
  have h73 : ∀ (s : Nat) (y : Int), (1 ≤ y ∧ y < 4) → bs x y s → s ≤ 30 → ∀ t : Int, t = 31 - (s : Int) → q_T l K L R_In b_In_numberOfLeadingZeros 2 (some .int) 0 (fun v σ' => (∃ b : Nat, b ≤ 30 ∧ v = some (vi (31 - (b : Int))) ∧ 2 ^ b ≤ x ∧ x < 2 ^ (b + 1)) ∧ σ' = σ) 73 [some (vi y), some (vi t)] [] σ := by
    intro s y hy hb hs t ht
    refine q_iload_n d_In_numberOfLeadingZeros_73 rfl ?_
    refine q_iload_n d_In_numberOfLeadingZeros_74 rfl ?_
    refine q_iconst d_In_numberOfLeadingZeros_75 rfl ?_
    refine q_iushr (z := y / 2) (q_iushrP (p := 1) (by omega) (by omega)) d_In_numberOfLeadingZeros_76 ?_
    refine q_isub d_In_numberOfLeadingZeros_77 ?_
    have hb1 := hb.1
    have hb2 := hb.2
    have hb3 : x < 2 ^ 31 := by rw [show (2 : Int) ^ 31 = 2147483648 by decide]; exact hx.2
    have hs30 : s + (y / 2).toNat ≤ 30 := by
      rcases Nat.lt_or_ge 30 (s + (y / 2).toNat) with g | g
      · exfalso
        have g1 := ip_le (B := 2) (by decide) (show 31 ≤ s + (y / 2).toNat by omega)
        rw [Int.pow_add] at g1
        rcases (show y = 1 ∨ y = 2 ∨ y = 3 by omega) with rfl | rfl | rfl
        · simp at g1; omega
        · simp at g1; omega
        · simp at g1; omega
      · exact g
    exact q_iret rfl (⟨⟨s + (y / 2).toNat, hs30, by rw [show t - y / 2 = 31 - ((s + (y / 2).toNat : Nat) : Int) by omega], by rcases (show y = 1 ∨ y = 2 ∨ y = 3 by omega) with rfl | rfl | rfl <;> (rw [Int.pow_add]; simp; omega), by rcases (show y = 1 ∨ y = 2 ∨ y = 3 by omega) with rfl | rfl | rfl <;> (rw [Int.pow_succ, Int.pow_add]; simp; omega)⟩, rfl⟩) d_In_numberOfLeadingZeros_78
  have h61 : ∀ (s : Nat) (y : Int), (1 ≤ y ∧ y < 16) → bs x y s → s ≤ 28 → ∀ t : Int, t = 31 - (s : Int) → q_T l K L R_In b_In_numberOfLeadingZeros 2 (some .int) 0 (fun v σ' => (∃ b : Nat, b ≤ 30 ∧ v = some (vi (31 - (b : Int))) ∧ 2 ^ b ≤ x ∧ x < 2 ^ (b + 1)) ∧ σ' = σ) 61 [some (vi y), some (vi t)] [] σ := by
    intro s y hy hb hs t ht
    refine q_iload_n d_In_numberOfLeadingZeros_61 rfl ?_
    refine q_iconst d_In_numberOfLeadingZeros_62 rfl ?_
    refine q_icmp_lt (tgt := 73) (by omega) (by omega) d_In_numberOfLeadingZeros_63 (by decide) (fun cc => ?_) (fun cc => ?_)
    · exact h73 s y (by omega) hb (by omega) _ ht
    · refine q_iinc_1 d_In_numberOfLeadingZeros_66 (by decide) rfl ?_
      refine q_iload_n d_In_numberOfLeadingZeros_69 rfl ?_
      refine q_iconst d_In_numberOfLeadingZeros_70 rfl ?_
      refine q_iushr (z := y / 4) (q_iushrP (p := 2) (by omega) (by omega)) d_In_numberOfLeadingZeros_71 ?_
      refine q_ist_n_0 d_In_numberOfLeadingZeros_72 (by decide) ?_
      exact h73 (s + 2) (y / 4) (by omega) (hb.next 2) (by omega) _ (by omega)
  have h48 : ∀ (s : Nat) (y : Int), (1 ≤ y ∧ y < 256) → bs x y s → s ≤ 24 → ∀ t : Int, t = 31 - (s : Int) → q_T l K L R_In b_In_numberOfLeadingZeros 2 (some .int) 0 (fun v σ' => (∃ b : Nat, b ≤ 30 ∧ v = some (vi (31 - (b : Int))) ∧ 2 ^ b ≤ x ∧ x < 2 ^ (b + 1)) ∧ σ' = σ) 48 [some (vi y), some (vi t)] [] σ := by
    intro s y hy hb hs t ht
    refine q_iload_n d_In_numberOfLeadingZeros_48 rfl ?_
    refine q_bipush d_In_numberOfLeadingZeros_49 (by decide) ?_
    refine q_icmp_lt (tgt := 61) (by omega) (by omega) d_In_numberOfLeadingZeros_51 (by decide) (fun cc => ?_) (fun cc => ?_)
    · exact h61 s y (by omega) hb (by omega) _ ht
    · refine q_iinc_1 d_In_numberOfLeadingZeros_54 (by decide) rfl ?_
      refine q_iload_n d_In_numberOfLeadingZeros_57 rfl ?_
      refine q_iconst d_In_numberOfLeadingZeros_58 rfl ?_
      refine q_iushr (z := y / 16) (q_iushrP (p := 4) (by omega) (by omega)) d_In_numberOfLeadingZeros_59 ?_
      refine q_ist_n_0 d_In_numberOfLeadingZeros_60 (by decide) ?_
      exact h61 (s + 4) (y / 16) (by omega) (hb.next 4) (by omega) _ (by omega)
  have h33 : ∀ (s : Nat) (y : Int), (1 ≤ y ∧ y < 65536) → bs x y s → s ≤ 16 → ∀ t : Int, t = 31 - (s : Int) → q_T l K L R_In b_In_numberOfLeadingZeros 2 (some .int) 0 (fun v σ' => (∃ b : Nat, b ≤ 30 ∧ v = some (vi (31 - (b : Int))) ∧ 2 ^ b ≤ x ∧ x < 2 ^ (b + 1)) ∧ σ' = σ) 33 [some (vi y), some (vi t)] [] σ := by
    intro s y hy hb hs t ht
    refine q_iload_n d_In_numberOfLeadingZeros_33 rfl ?_
    refine q_sipush d_In_numberOfLeadingZeros_34 (by decide) ?_
    refine q_icmp_lt (tgt := 48) (by omega) (by omega) d_In_numberOfLeadingZeros_37 (by decide) (fun cc => ?_) (fun cc => ?_)
    · exact h48 s y (by omega) hb (by omega) _ ht
    · refine q_iinc_1 d_In_numberOfLeadingZeros_40 (by decide) rfl ?_
      refine q_iload_n d_In_numberOfLeadingZeros_43 rfl ?_
      refine q_bipush d_In_numberOfLeadingZeros_44 (by decide) ?_
      refine q_iushr (z := y / 256) (q_iushrP (p := 8) (by omega) (by omega)) d_In_numberOfLeadingZeros_46 ?_
      refine q_ist_n_0 d_In_numberOfLeadingZeros_47 (by decide) ?_
      exact h48 (s + 8) (y / 256) (by omega) (hb.next 8) (by omega) _ (by omega)
  refine q_iload_n d_In_numberOfLeadingZeros_0 rfl ?_
  refine q_if_gt (tgt := 15) (by omega) d_In_numberOfLeadingZeros_1 (by decide) (fun c1 => ?_) (fun c1 => absurd c1 (by omega))
  refine q_bipush d_In_numberOfLeadingZeros_15 (by decide) ?_
  refine q_ist_n_1 d_In_numberOfLeadingZeros_17 (by decide) rfl ?_
  refine q_iload_n d_In_numberOfLeadingZeros_18 rfl ?_
  refine q_ldcw (z := 65536) w_k_In_264 (by decide) d_In_numberOfLeadingZeros_19 ?_
  refine q_icmp_lt (tgt := 33) (by omega) (by omega) d_In_numberOfLeadingZeros_22 (by decide) (fun cc => ?_) (fun cc => ?_)
  · exact h33 0 x (by omega) (by unfold bs; simp; omega) (by omega) _ rfl
  · refine q_iinc_1 d_In_numberOfLeadingZeros_25 (by decide) rfl ?_
    refine q_iload_n d_In_numberOfLeadingZeros_28 rfl ?_
    refine q_bipush d_In_numberOfLeadingZeros_29 (by decide) ?_
    refine q_iushr (z := x / 65536) (q_iushrP (p := 16) (by omega) (by omega)) d_In_numberOfLeadingZeros_31 ?_
    refine q_ist_n_0 d_In_numberOfLeadingZeros_32 (by decide) ?_
    exact h33 16 (x / 65536) (by omega) ((show bs x x 0 by unfold bs; simp; omega).next 16) (by omega) _ (by omega)
theorem bl_bound {g : Nat → Int} {n b : Nat} {X : Int} (h4 : ∀ k, k < n → 0 ≤ g k ∧ g k < 2147483648) (h5 : dv 2147483648 g n = X) (hn : 0 < n) (h1 : 2 ^ b ≤ g (n - 1)) (h2 : g (n - 1) < 2 ^ (b + 1)) : 2 ^ (31 * (n - 1) + b + 1 - 1) ≤ X ∧ X < 2 ^ (31 * (n - 1) + b + 1) := by
  obtain ⟨k, rfl⟩ : ∃ k, n = k + 1 := ⟨n - 1, by omega⟩
  rw [Nat.add_sub_cancel] at h1 h2
  have hr := (dv_range (B := 2147483648) (by decide) (fun j hj => h4 j (by omega)) : 0 ≤ dv 2147483648 g k ∧ dv 2147483648 g k < 2147483648 ^ k)
  have e1 : (2 : Int) ^ (31 * k) = 2147483648 ^ k := by rw [show (2147483648 : Int) = 2 ^ 31 by decide, ← Int.pow_mul]
  have hp := ip_pos (B := 2147483648) (by decide) k
  rw [dv_s] at h5
  have g1 := Int.mul_le_mul_of_nonneg_right h1 (Int.le_of_lt hp)
  have g2 := Int.mul_le_mul_of_nonneg_right (show g k + 1 ≤ 2 ^ (b + 1) by omega) (Int.le_of_lt hp)
  rw [Int.add_mul, Int.one_mul] at g2
  constructor
  · rw [show 31 * (k + 1 - 1) + b + 1 - 1 = 31 * k + b by omega, Int.pow_add, e1, Int.mul_comm]; omega
  · rw [show 31 * (k + 1 - 1) + b + 1 = 31 * k + (b + 1) by omega, Int.pow_add, e1, Int.mul_comm]; omega
set_option maxHeartbeats 4000000 in
set_option maxRecDepth 100000 in
theorem c_Nu_bitLength (l : Launch) (K : pw_K) {L : q_L} {σ : q_S} {a w : Nat} {x : Int} (hL : nL L a w) (ha : nV σ a w x) : q_C l K L y_Nu_bitLength b_Nu_bitLength 1 (some .int) 1 [.ref a] σ (fun v σ' => (∃ β : Nat, v = some (vi (β : Int)) ∧ (x = 0 → β = 0) ∧ (x ≠ 0 → 0 < β ∧ 2 ^ (β - 1) ≤ (x.natAbs : Int) ∧ (x.natAbs : Int) < 2 ^ β) ∧ β ≤ 31 * w) ∧ σ' = σ) := by
  have hw := hL.2
  obtain ⟨hA, hB⟩ := hL.1
  obtain ⟨n, hu, ht0⟩ := ha
  have hu2 := hu
  obtain ⟨h1, h2, h3, h4, h5⟩ := hu2
  refine q_start [some (.ref a)] (by decide) (Nat.le_of_ble_eq_true rfl) (fun q h => h) ?_
  refine q_aload_n d_Nu_bitLength_0 rfl ?_
  refine q_gi (by assumption) pc_Nu 1 (by decide) w_fl_Nu_13 rfl (by rfl) d_Nu_bitLength_1 ?_
  refine q_topi h1 ?_
  refine q_if_ne (tgt := 11) (by omega) d_Nu_bitLength_4 (by decide) (fun c0 => ?_) (fun c0 => ?_)
  · refine q_aload_n d_Nu_bitLength_11 rfl ?_
    refine q_gi (by assumption) pc_Nu 1 (by decide) w_fl_Nu_13 rfl (by rfl) d_Nu_bitLength_12 ?_
    refine q_topi h1 ?_
    refine q_bipush d_Nu_bitLength_15 (by decide) ?_
    refine q_imul d_Nu_bitLength_17 ?_
    refine q_aload_n d_Nu_bitLength_18 rfl ?_
    refine q_gr (by assumption) pc_Nu 0 (by decide) w_fl_Nu_9 rfl (by rfl) d_Nu_bitLength_19 ?_
    refine q_aload_n d_Nu_bitLength_22 rfl ?_
    refine q_gi (by assumption) pc_Nu 1 (by decide) w_fl_Nu_13 rfl (by rfl) d_Nu_bitLength_23 ?_
    refine q_topi h1 ?_
    refine q_iconst d_Nu_bitLength_26 rfl ?_
    refine q_isub d_Nu_bitLength_27 ?_
    refine q_ial (n - 1) (by assumption) (by omega) (by omega) (by omega) d_Nu_bitLength_28 ?_
    refine q_callS (As := [vi (σ (a + 1) (n - 1))]) (c_In_nlz l K L σ (by have := h4 (n - 1) (by omega); have := ht0 (by omega); omega)) w_cd_In_numberOfLeadingZeros w_ini_In w_ml_Nu_34 w_st_In_numberOfLeadingZeros hd_In_numberOfLeadingZeros rfl (Nat.le_of_ble_eq_true rfl) d_Nu_bitLength_29 (by decide) (by decide) (fun v σ1 hp => ?_)
    obtain ⟨⟨b, hb1, rfl, hb2, hb3⟩, hσ⟩ := hp
    rw [hσ]
    clear hσ σ1
    refine q_iconst d_Nu_bitLength_32 rfl ?_
    refine q_isub d_Nu_bitLength_33 ?_
    refine q_isub d_Nu_bitLength_34 ?_
    exact q_iret rfl (⟨⟨31 * (n - 1) + b + 1, by rw [show (n : Int) * 31 - (31 - (b : Int) - 1) = ((31 * (n - 1) + b + 1 : Nat) : Int) by omega], fun h => by have := (hu.zero ht0).mpr (by omega); omega, fun _ => ⟨by omega, bl_bound h4 h5 (by omega) hb2 hb3⟩, by omega⟩, rfl⟩) d_Nu_bitLength_35
  · refine q_iconst d_Nu_bitLength_7 rfl ?_
    refine q_goto (tgt := 35) d_Nu_bitLength_8 (by decide) ?_
    exact q_iret rfl (⟨⟨0, rfl, fun _ => rfl, fun h => absurd ((hu.zero ht0).mp (by omega)) (by omega), by omega⟩, rfl⟩) d_Nu_bitLength_35
