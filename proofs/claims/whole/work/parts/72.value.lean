section
variable {q : Rat → Rat} {s N : Rat → Int} {B : Rat}
theorem rct.none' (h : rct q s N B) (ql : lp q) {x y : Rat} (hx : ab x B) (hy : ab y B) (hxy : x < y) {σ : Int} (hq : ∀ t, x < t → t ≤ y → sgr (q t) = σ) (hσ : σ ≠ 0) : N y = N x := by
  have h0 : q y ≠ 0 := fun h0 => by
    have := hq y hxy Rat.le_refl
    rw [h0] at this; apply hσ; rw [← this]; rfl
  obtain ⟨d, hd, l⟩ := h.left ql hy h0
  obtain ⟨z, z1, z2, z3⟩ : ∃ z, x ≤ z ∧ z < y ∧ y - z < d := by
    by_cases hc : y - x < d
    · exact ⟨x, by grind, hxy, hc⟩
    · exact ⟨y - d / 2, by grind, by grind, by grind⟩
  have hz := ab_mid hx hy z1 (by grind)
  have := (l z hz z2 z3).1
  have := h.none ql hx hy (fun t t1 t2 => hq t t1 (by grind)) hσ z z1 z2
  omega
theorem sgr_mul {σ : Int} (hσ : σ = 1 ∨ σ = -1) (x : Rat) : (0 < σ * x ↔ sgr x = σ) ∧ (σ * x < 0 ↔ sgr x = -σ) ∧ (σ * x = 0 ↔ sgr x = 0) := by
  rcases hσ with e | e <;> subst e <;> rcases sgr_r x with h | h | h <;> refine ⟨⟨fun _ => ?_, fun _ => ?_⟩, ⟨fun _ => ?_, fun _ => ?_⟩, ⟨fun _ => ?_, fun _ => ?_⟩⟩ <;> grind
/-- between x and y (both left out) q has the sign σ first, then, once it is 0 or less, the other: one root there -/
theorem rct.one (h : rct q s N B) (ql : lp q) {x y : Rat} (hx : ab x B) (hy : ab y B) (hxy : x < y) {σ : Int} (hσ : σ = 1 ∨ σ = -1) (h1 : ∀ t u, x < t → t < u → u < y → σ * q t ≤ 0 → σ * q u < 0) (h2 : ∃ t, x < t ∧ t < y ∧ 0 < σ * q t) : ∀ t, x < t → t < y → (0 < σ * q t → N t = N x) ∧ (σ * q t ≤ 0 → N t = N x + 1) := by
  have hpos : ∀ t, x < t → t < y → 0 < σ * q t → N t = N x := by
    intro t t1 t2 t3
    refine h.none' ql hx (ab_mid hx hy (by grind) (by grind)) t1 (σ := σ) (fun u u1 u2 => ?_) (by omega)
    refine (sgr_mul hσ _).1.1 ?_
    by_cases e : u = t
    · rw [e]; exact t3
    · by_cases hu : 0 < σ * q u
      · exact hu
      · have := h1 u t u1 (by grind) t2 (by grind); grind
  obtain ⟨z, z1, z2, z3⟩ := h2
  have hz := ab_mid hx hy (show x ≤ z by grind) (show z ≤ y by grind)
  have nz := hpos z z1 z2 z3
  have qz : q z ≠ 0 := fun e => by rw [e] at z3; grind
  have sz := h.sq z hz qz
  have gz := (sgr_mul hσ _).1.1 z3
  have hneg : ∀ t, x < t → t < y → σ * q t < 0 → N t = N x + 1 := by
    intro t t1 t2 t3
    have ht := ab_mid hx hy (show x ≤ t by grind) (show t ≤ y by grind)
    have hzt : z < t := by
      by_cases hc : z < t
      · exact hc
      · exfalso
        by_cases e : z = t
        · rw [e] at z3; grind
        · have := h1 t z t1 (by grind) z2 (by grind); grind
    have m := h.mono hz ht (by grind)
    have p := h.par hz ht (by grind)
    have qt : q t ≠ 0 := fun e => by rw [e] at t3; grind
    have st := h.sq t ht qt
    have gt := (sgr_mul hσ _).2.1.1 t3
    have od : (N t - N z) % 2 = 1 := by
      have : (N t - N z) % 2 = 0 ∨ (N t - N z) % 2 = 1 := by omega
      rcases this with e | e
      · have := p.1 e; omega
      · exact e
    by_cases hN : N t = N x + 1
    · exact hN
    · exfalso
      obtain ⟨w, w1, w2, w3⟩ := h.ivt hz ht (by grind) (N z + 2) (by omega) (by omega)
      have hwt : w < t := by
        by_cases hc : w < t
        · exact hc
        · have : w = t := by grind
          subst this; omega
      have hw := ab_mid hz ht w1 w2
      obtain ⟨d, hd, r⟩ := h.right ql hw
      obtain ⟨v, v1, v2, v3⟩ : ∃ v, w < v ∧ v < t ∧ v - w < d := by
        by_cases hc : (t - w) / 2 < d
        · exact ⟨w + (t - w) / 2, by grind, by grind, by grind⟩
        · exact ⟨w + d / 2, by grind, by grind, by grind⟩
      have hv := ab_mid hw ht (show w ≤ v by grind) (show v ≤ t by grind)
      obtain ⟨r1, r2, r3⟩ := r v hv v1 v3
      have sv := h.sq v hv r3
      have pw := (h.par hz hw w1).1 (by omega)
      have := hpos v (by grind) (by grind) ((sgr_mul hσ _).1.2 (by omega))
      omega
  intro t t1 t2
  refine ⟨hpos t t1 t2, fun t3 => ?_⟩
  by_cases e : σ * q t < 0
  · exact hneg t t1 t2 e
  · have ht := ab_mid hx hy (show x ≤ t by grind) (show t ≤ y by grind)
    obtain ⟨d, hd, r⟩ := h.right ql ht
    obtain ⟨v, v1, v2, v3⟩ : ∃ v, t < v ∧ v < y ∧ v - t < d := by
      by_cases hc : (y - t) / 2 < d
      · exact ⟨t + (y - t) / 2, by grind, by grind, by grind⟩
      · exact ⟨t + d / 2, by grind, by grind, by grind⟩
    have hv := ab_mid ht hy (show t ≤ v by grind) (show v ≤ y by grind)
    obtain ⟨r1, r2, r3⟩ := r v hv v1 v3
    have := hneg v (by grind) v2 (h1 t v t1 v1 v2 t3)
    omega
end
theorem rpow_add (x : Rat) (a : Nat) : ∀ b, x ^ (a + b) = x ^ a * x ^ b
  | 0 => by grind
  | b + 1 => by
    rw [← Nat.add_assoc, Rat.pow_succ, Rat.pow_succ, rpow_add x a b]; grind
/-- the value at x of the polynomial with the n coefficients P 0 .. -/
def ev (P : Nat → Int) : Nat → Rat → Rat
  | 0, _ => 0
  | n + 1, x => ev P n x + P n * x ^ n
theorem ev_congr {P Q : Nat → Int} : ∀ {n : Nat}, (∀ k, k < n → P k = Q k) → ∀ x, ev P n x = ev Q n x
  | 0, _, _ => rfl
  | n + 1, h, x => by
    show ev P n x + P n * x ^ n = ev Q n x + Q n * x ^ n
    rw [ev_congr (fun k hk => h k (by omega)) x, h n (by omega)]
theorem lp.pow : ∀ n : Nat, lp (fun x => x ^ n)
  | 0 => (lp.const 1).congr (fun x => by grind)
  | n + 1 => ((lp.pow n).mul lp.id).congr (fun x => by grind)
theorem df.pow : ∀ n : Nat, df (fun x => x ^ n) (fun x => n * x ^ (n - 1))
  | 0 => (df.const 1).congr (fun x => by grind) (fun x => by grind)
  | n + 1 => by
    refine ((df.pow n).mul df.id (lp.pow n) lp.id).congr (fun x => by grind) (fun x => ?_)
    rcases Nat.eq_zero_or_pos n with h | h
    · subst h; grind
    · have e : x ^ n = x ^ (n - 1) * x := by rw [← Rat.pow_succ]; congr 1; omega
      have e2 : ((n + 1 : Nat) : Rat) = n + 1 := by push_cast; rfl
      rw [e2, Nat.add_sub_cancel]; grind
theorem ev_lp (P : Nat → Int) : ∀ n, lp (ev P n)
  | 0 => lp.const 0
  | n + 1 => (ev_lp P n).add ((lp.pow n).smul _)
/-- the derivative's coefficients -/
def dP (P : Nat → Int) (k : Nat) : Int := (k + 1) * P (k + 1)
theorem ev_df (P : Nat → Int) : ∀ n, df (ev P n) (ev (dP P) (n - 1))
  | 0 => df.const 0
  | n + 1 => by
    refine ((ev_df P n).add ((df.pow n).smul (P n : Rat) (lp.pow n))).congr (fun x => rfl) (fun x => ?_)
    rcases Nat.eq_zero_or_pos n with h | h
    · subst h; simp [ev]; grind
    · obtain ⟨m, rfl⟩ : ∃ m, n = m + 1 := ⟨n - 1, by omega⟩
      show ev (dP P) (m + 1) x = ev (dP P) m x + P (m + 1) * (((m + 1 : Nat) : Rat) * x ^ m)
      show ev (dP P) m x + ((dP P m : Int) : Rat) * x ^ m = _
      have e2 : ((m + 1 : Nat) : Rat) = m + 1 := by push_cast; rfl
      have e3 : ((dP P m : Int) : Rat) = (m + 1) * P (m + 1) := by unfold dP; push_cast; rfl
      rw [e2, e3]; grind
theorem ev_lin (a b : Int) (P Q : Nat → Int) (x : Rat) : ∀ n, ev (fun k => a * P k + b * Q k) n x = a * ev P n x + b * ev Q n x
  | 0 => by show (0 : Rat) = _; simp only [ev]; grind
  | n + 1 => by
    show ev _ n x + ((a * P n + b * Q n : Int) : Rat) * x ^ n = a * (ev P n x + P n * x ^ n) + b * (ev Q n x + Q n * x ^ n)
    rw [ev_lin a b P Q x n]
    push_cast
    grind
theorem ev_cons (P : Nat → Int) (x : Rat) : ∀ n, ev P (n + 1) x = P 0 + x * ev (fun k => P (k + 1)) n x
  | 0 => by simp only [ev]; grind
  | n + 1 => by
    show ev P (n + 1) x + P (n + 1) * x ^ (n + 1) = P 0 + x * (ev _ n x + P (n + 1) * x ^ n)
    rw [ev_cons P x n, Rat.pow_succ]; grind
theorem ev_pad {P : Nat → Int} {n m : Nat} (h : n ≤ m) (h0 : ∀ k, n ≤ k → k < m → P k = 0) (x : Rat) : ev P m x = ev P n x := by
  induction m with
  | zero => rw [show n = 0 by omega]
  | succ m ih =>
    by_cases e : n = m + 1
    · rw [e]
    · show ev P m x + P m * x ^ m = _
      rw [ih (by omega) (fun k a b => h0 k a (by omega)), h0 m (by omega) (by omega)]; grind
/-- x to the g times the polynomial -/
def shP (V : Nat → Int) (g k : Nat) : Int := if k < g then 0 else V (k - g)
theorem ev_sh (V : Nat → Int) (g : Nat) (x : Rat) : ∀ n, ev (shP V g) (n + g) x = x ^ g * ev V n x
  | 0 => by
    rw [Nat.zero_add]
    rw [ev_pad (Nat.zero_le g) (fun k _ h => by unfold shP; rw [if_pos h])]
    simp only [ev]; grind
  | n + 1 => by
    rw [show n + 1 + g = (n + g) + 1 by omega]
    show ev (shP V g) (n + g) x + ((shP V g (n + g) : Int) : Rat) * x ^ (n + g) = x ^ g * (ev V n x + V n * x ^ n)
    rw [ev_sh V g x n, show shP V g (n + g) = V n by unfold shP; rw [if_neg (by omega), Nat.add_sub_cancel]]
    rw [rpow_add]; grind
theorem hf_ev (P : Nat → Int) (n : Nat) (O U : Int) (hU : U ≠ 0) : ∀ i, i ≤ n + 1 → ((hf P n O U i : Int) : Rat) * U = (U : Rat) ^ i * ev (fun k => P (n + 1 - i + k)) i ((O : Rat) / U)
  | 0, _ => by simp only [hf, ev]; grind
  | i + 1, hi => by
    have ih := hf_ev P n O U hU i (by omega)
    have hU' : (U : Rat) ≠ 0 := fun h => hU (by exact_mod_cast h)
    rw [ev_cons]
    have e1 : ev (fun k => P (n + 1 - i + k)) i ((O : Rat) / U) = ev (fun k => P (n + 1 - (i + 1) + (k + 1))) i ((O : Rat) / U) := ev_congr (fun k _ => by congr 1; omega) _
    rw [← e1]
    show ((hf P n O U i * O + P (n - i) * U ^ i : Int) : Rat) * U = _
    have e2 : n + 1 - (i + 1) + 0 = n - i := by omega
    rw [e2]
    push_cast
    have e3 : (U : Rat) ^ (i + 1) = (U : Rat) ^ i * U := Rat.pow_succ _ _
    have e4 : (O : Rat) / U * U = O := Rat.div_mul_cancel hU'
    rw [e3]
    generalize ev (fun k => P (n + 1 - i + k)) i ((O : Rat) / U) = E at *
    generalize (O : Rat) / U = z at *
    generalize (hf P n O U i : Rat) = H at *
    generalize (U : Rat) ^ i = T at *
    grind
theorem hf_ev' (P : Nat → Int) (n : Nat) (O U : Int) (hU : U ≠ 0) : ((hf P n O U (n + 1) : Int) : Rat) = (U : Rat) ^ n * ev P (n + 1) ((O : Rat) / U) := by
  have h := hf_ev P n O U hU (n + 1) (Nat.le_refl _)
  have hU' : (U : Rat) ≠ 0 := fun h => hU (by exact_mod_cast h)
  rw [show ev (fun k => P (n + 1 - (n + 1) + k)) (n + 1) ((O : Rat) / U) = ev P (n + 1) ((O : Rat) / U) from ev_congr (fun k _ => by congr 1; omega) _, Rat.pow_succ] at h
  generalize ev P (n + 1) ((O : Rat) / U) = E at *
  grind
theorem hv_hf (P : Nat → Int) (n : Nat) (X : Int) (ex : Nat) : ∀ i, hv P n X ex i = hf P n X (2 ^ ex) i
  | 0 => rfl
  | i + 1 => by
    show hv P n X ex i * X + P (n - i) * 2 ^ (ex * i) = hf P n X (2 ^ ex) i * X + P (n - i) * (2 ^ ex) ^ i
    rw [hv_hf P n X ex i, Int.pow_mul]
theorem sgr_int (z : Int) : sgr (z : Rat) = z.sign := by
  have h := sgr_r (z : Rat)
  rcases Int.lt_trichotomy z 0 with g | g | g
  · rw [Int.sign_eq_neg_one_of_neg g]
    have : (z : Rat) < 0 := by exact_mod_cast g
    grind
  · subst g; rfl
  · rw [Int.sign_eq_one_of_pos g]
    have : (0 : Rat) < z := by exact_mod_cast g
    grind
theorem sgr_pos_mul {a b : Rat} (h : 0 < a) : sgr (a * b) = sgr b := by
  rcases sgr_r b with g | g | g <;> rcases sgr_r (a * b) with k | k | k
  · omega
  · have := Rat.mul_pos h (show 0 < -b by grind); grind
  · have := Rat.mul_pos h (show 0 < -b by grind); grind
  · rw [g.2] at k; grind
  · omega
  · rw [g.2] at k; grind
  · have := Rat.mul_pos h g.2; grind
  · have := Rat.mul_pos h g.2; grind
  · omega
theorem hf_sg (P : Nat → Int) (n : Nat) (O U : Int) (hU : 0 < U) : (hf P n O U (n + 1)).sign = sgr (ev P (n + 1) ((O : Rat) / U)) := by
  rw [← sgr_int, hf_ev' P n O U (by omega)]
  exact sgr_pos_mul (Rat.pow_pos (by exact_mod_cast hU))
theorem hv_sg (P : Nat → Int) (n : Nat) (X : Int) (ex : Nat) : (hv P n X ex (n + 1)).sign = sgr (ev P (n + 1) ((X : Rat) / ((2 ^ ex : Int) : Rat))) := by
  rw [hv_hf, hf_sg P n X (2 ^ ex) (Int.pow_pos (by decide))]
