/-! NUMBERS IN LIMBS of 31 bits -/
abbrev B31 : Nat := 2147483648
def dgt (m j : Nat) : Nat := m / B31 ^ j % B31
def lc (m : Nat) : Nat := if m = 0 then 0 else m.log2 / 31 + 1
def sgI (x : Int) : Int32 := if x < 0 then -1 else if x = 0 then 0 else 1
theorem B31_pow (k : Nat) : B31 ^ k = 2 ^ (31 * k) := by rw [Nat.pow_mul]
theorem lc_le {m k : Nat} : lc m ≤ k ↔ m < B31 ^ k := by
  unfold lc
  rw [B31_pow]
  by_cases h : m = 0
  · subst h
    simp [Nat.two_pow_pos]
  · rw [if_neg h, ← Nat.log2_lt h]
    omega
theorem lc_0 : lc 0 = 0 := rfl
theorem lc_eq0 {m : Nat} : lc m = 0 ↔ m = 0 := by
  have := @lc_le m 0
  simp at this
  omega
theorem u_tn {m : Nat} (h : m < 2 ^ 64) : (lN m).toBitVec.toNat = m := Nat.mod_eq_of_lt h
theorem u_z {m : Nat} (h : m < 2 ^ 64) : lN m = 0 ↔ m = 0 := by
  constructor
  · intro e
    have := congrArg (fun x : Int64 => x.toBitVec.toNat) e
    simp only [u_tn h] at this
    exact this
  · intro e; subst e; rfl
theorem u_and {m : Nat} (h : m < 2 ^ 64) : (lN m &&& 2147483647).toInt32 = nI (m % B31) := by
  apply Int32.toBitVec_inj.mp
  apply BitVec.eq_of_toNat_eq
  have h2 : m % B31 < 2 ^ 32 := Nat.lt_of_lt_of_le (Nat.mod_lt _ (by decide)) (by decide)
  rw [pk_tn h2]
  have e : (lN m &&& 2147483647).toBitVec.toNat = m % B31 := by
    rw [Int64.toBitVec_and, BitVec.toNat_and, u_tn h]
    exact Nat.and_two_pow_sub_one_eq_mod m 31
  show ((lN m &&& 2147483647).toBitVec.signExtend 32).toNat = _
  rw [BitVec.signExtend_eq_setWidth_of_le _ (by decide), BitVec.toNat_setWidth, e, Nat.mod_eq_of_lt h2]
theorem u_shr {m : Nat} (h : m < 2 ^ 64) : ((lN m).toUInt64 >>> ((31 : Int32).toInt64.toUInt64 &&& Int64.toUInt64 63)).toInt64 = lN (m / B31) := by
  apply Int64.toBitVec_inj.mp
  apply BitVec.eq_of_toNat_eq
  have h2 : m / B31 < 2 ^ 64 := Nat.lt_of_le_of_lt (Nat.div_le_self _ _) h
  rw [u_tn h2]
  have e : ((lN m).toUInt64 >>> ((31 : Int32).toInt64.toUInt64 &&& Int64.toUInt64 63)).toInt64.toBitVec = (lN m).toBitVec >>> 31 := UInt64.toBitVec_shiftRight _ _
  rw [e, BitVec.toNat_ushiftRight, u_tn h, Nat.shiftRight_eq_div_pow]
theorem u_pos {v : Int64} (h : ¬ v < 0) : v = lN v.toInt.natAbs := by
  obtain ⟨k, hk, rfl⟩ := pk_lOf h
  rw [pk_lT hk]
  rfl
theorem u_neg {v : Int64} (h : v < 0) : -v = lN v.toInt.natAbs := by
  rw [Int64.lt_iff_toInt_lt] at h
  have h0 : (0 : Int64).toInt = 0 := by decide
  have h1 : v = Int64.ofInt v.toInt := (Int64.ofInt_toInt v).symm
  have h2 : v.toInt = -(v.toInt.natAbs : Int) := by omega
  generalize v.toInt.natAbs = n at h2 ⊢
  rw [h1, h2, ← Int64.ofInt_neg, Int.neg_neg]
  rfl
theorem u_max (v : Int64) : v.toInt.natAbs ≤ 2 ^ 63 := by
  have h1 := Int64.toInt_lt v
  have h2 := Int64.le_toInt v
  omega
theorem u_sgn (v : Int64) : ((v >>> ((63 : Int32).toInt64 &&& 63)) ||| ((-v).toUInt64 >>> ((63 : Int32).toInt64.toUInt64 &&& Int64.toUInt64 63)).toInt64).toInt32 = sgI v.toInt := by
  have eA : (v >>> ((63 : Int32).toInt64 &&& 63)).toBitVec = v.toBitVec.sshiftRight 63 := rfl
  have eB : ((-v).toUInt64 >>> ((63 : Int32).toInt64.toUInt64 &&& Int64.toUInt64 63)).toInt64.toBitVec = (-v.toBitVec) >>> 63 := UInt64.toBitVec_shiftRight _ _
  apply Int32.toBitVec_inj.mp
  show ((v >>> ((63 : Int32).toInt64 &&& 63)) ||| ((-v).toUInt64 >>> ((63 : Int32).toInt64.toUInt64 &&& Int64.toUInt64 63)).toInt64).toBitVec.signExtend 32 = _
  rw [Int64.toBitVec_or, eA, eB]
  have hv : v.toInt = v.toBitVec.toInt := rfl
  rw [hv]
  generalize v.toBitVec = b
  unfold sgI
  have hlt := BitVec.toInt_lt (x := b)
  have hge := BitVec.le_toInt b
  have hA : (b.sshiftRight 63) = if b.toInt < 0 then -1#64 else 0#64 := by
    apply BitVec.eq_of_toInt_eq
    rw [BitVec.toInt_sshiftRight, Int.shiftRight_eq_div_pow]
    split <;> rename_i h
    · rw [show (-1#64).toInt = -1 from rfl]; omega
    · rw [show (0#64).toInt = 0 from rfl]; omega
  have hB : ((-b) >>> 63) = if 0 < b.toInt ∨ b.toNat = 2 ^ 63 then 1#64 else 0#64 := by
    apply BitVec.eq_of_toNat_eq
    rw [BitVec.toNat_ushiftRight, Nat.shiftRight_eq_div_pow, BitVec.toNat_neg]
    have hn := b.isLt
    have hc := BitVec.toInt_eq_toNat_cond b
    by_cases hd : 0 < b.toInt ∨ b.toNat = 2 ^ 63
    · rw [if_pos hd]
      show _ = 1
      split at hc <;> omega
    · rw [if_neg hd]
      show _ = 0
      split at hc <;> omega
  rw [hA, hB]
  by_cases c1 : b.toInt < 0
  · rw [if_pos c1, if_pos c1]
    split <;> decide
  · rw [if_neg c1, if_neg c1]
    by_cases c2 : b.toInt = 0
    · rw [if_pos c2]
      have h3 : ¬ (0 < b.toInt ∨ b.toNat = 2 ^ 63) := by
        rw [BitVec.toInt_eq_toNat_cond] at c2 ⊢
        have hn := b.isLt
        split at c2 <;> omega
      rw [if_neg h3]; decide
    · rw [if_neg c2, if_pos (Or.inl (by omega))]; decide
