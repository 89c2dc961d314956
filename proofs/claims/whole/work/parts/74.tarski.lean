theorem div_out {α y z z' : Rat} (hα : 0 < α) (h : α * y = z) (e : z = z') : y = z' * (1 / α) := by
  have : α ≠ 0 := by grind
  grind
theorem vx_step {a b c : Int} (ha : a = -b ∧ b ≠ 0) (hc : c = 1 ∨ c = -1) (hb : b = 1 ∨ b = -1) : (if a = -c ∧ a ≠ 0 then (1 : Int) else 0) - (if b = -c ∧ b ≠ 0 then 1 else 0) = b * c := by
  obtain ⟨ha, _⟩ := ha
  subst ha
  rcases hc with e | e <;> rcases hb with f | f <;> subst e <;> subst f <;> decide
section
variable {q : Rat → Rat} {s N : Rat → Int} {B : Rat}
/-- what the chain of k loses over a stretch with no root of q, or one: q = d k0 -/
theorem rct.walk (h : rct q s N B) (ql : lp q) {k : Nat → Rat → Rat} {m : Nat} {a c : Nat → Rat} {g : Nat → Rat → Rat} (hc : chn k m a c g) {d U W : Rat → Rat} (ld : lp d) (lU : lp U) (lW : lp W) (e : ∀ x, q x = d x * k 0 x) (bz : ∀ x, U x * d x + W x * k 0 x = 1) {δ : Rat} (hδ : 0 < δ) : ∀ x y, ab x B → ab y B → x < y → q x ≠ 0 → q y ≠ 0 → (N y = N x → vx k m x = vx k m y ∧ keep d x y) ∧ (N y = N x + 1 → (vx k m x = vx k m y ∧ d x * d y < 0) ∨ (keep d x y ∧ 1 ≤ m ∧ ∃ x' y', x ≤ x' ∧ x' < y' ∧ y' ≤ y ∧ y' - x' < δ ∧ k 0 x' * k 0 y' < 0 ∧ keep (k 1) x' y' ∧ vx k m x - vx k m y = sgr (k 0 y') * sgr (k 1 y'))) := by
  obtain ⟨d1, hd1, l1⟩ := h.fac ld (hc.kl 0 (by omega)) lU lW e bz
  obtain ⟨d2, hd2, l2⟩ := hc.loc B
  obtain ⟨d3, hd3, m1, m2⟩ := min_pos hd1 hd2
  obtain ⟨d4, hd4, m3, m4⟩ := min_pos hd3 hδ
  refine h.grid0 ql hd4 (R := fun x y => (N y = N x → vx k m x = vx k m y ∧ keep d x y) ∧ (N y = N x + 1 → (vx k m x = vx k m y ∧ d x * d y < 0) ∨ (keep d x y ∧ 1 ≤ m ∧ ∃ x' y', x ≤ x' ∧ x' < y' ∧ y' ≤ y ∧ y' - x' < δ ∧ k 0 x' * k 0 y' < 0 ∧ keep (k 1) x' y' ∧ vx k m x - vx k m y = sgr (k 0 y') * sgr (k 1 y')))) (fun x y z hx hy hz q1 q2 q3 hxy hyz r1 r2 => ?_) (fun x y hx hy hxy hl q1 q2 => ?_)
  · have n1 := h.mono hx hy (by grind)
    have n2 := h.mono hy hz (by grind)
    refine ⟨fun hn => ?_, fun hn => ?_⟩
    · have a := r1.1 (by omega)
      have b := r2.1 (by omega)
      exact ⟨a.1.trans b.1, keep_tr a.2 b.2⟩
    · by_cases hcs : N y = N x
      · have a := r1.1 hcs
        rcases r2.2 (by omega) with b | ⟨b1, b2, x', y', c1, c2, c3, c4, c5, c6, c7⟩
        · exact Or.inl ⟨a.1.trans b.1, keep_ch a.2 b.2⟩
        · exact Or.inr ⟨keep_tr a.2 b1, b2, x', y', by grind, c2, c3, c4, c5, c6, by rw [a.1]; exact c7⟩
      · have b := r2.1 (by omega)
        rcases r1.2 (by omega) with a | ⟨b1, b2, x', y', c1, c2, c3, c4, c5, c6, c7⟩
        · exact Or.inl ⟨a.1.trans b.1, ch_keep a.2 b.2⟩
        · exact Or.inr ⟨keep_tr b1 b.2, b2, x', y', c1, c2, by grind, c4, c5, c6, by rw [← b.1]; exact c7⟩
  · have hl3 := Std.lt_of_lt_of_le hl m3
    obtain ⟨v1, v2⟩ := l2 x y hx hy (by grind) (Std.lt_of_lt_of_le hl3 m2)
    rcases l1 x y hx hy hxy (Std.lt_of_lt_of_le hl3 m1) q1 q2 with a | a | a
    · exact ⟨fun _ => ⟨v1 a.2.2, a.2.1⟩, fun hn => by omega⟩
    · exact ⟨fun hn => by omega, fun _ => Or.inl ⟨v1 a.2.2, a.2.1⟩⟩
    · refine ⟨fun hn => by omega, fun _ => Or.inr ⟨a.2.1, ?_⟩⟩
      obtain ⟨w1, w2, w3⟩ := v2 (fun hk => by unfold keep at hk; have := a.2.2; grind)
      refine ⟨w2, x, y, Rat.le_refl, hxy, Rat.le_refl, Std.lt_of_lt_of_le hl m4, a.2.2, w1, ?_⟩
      have o := sgr_opp a.2.2
      have ky : k 0 y ≠ 0 := fun h0 => by have := a.2.2; rw [h0] at this; grind
      have o2 : sgr (k 0 y) = 1 ∨ sgr (k 0 y) = -1 := by rcases sgr_r (k 0 y) with g | g | g <;> grind
      have o3 : sgr (k 1 x) = 1 ∨ sgr (k 1 x) = -1 := by have := w1.sg.2; rcases sgr_r (k 1 x) with g | g | g <;> omega
      rw [w3, vx_step ⟨o, by omega⟩ o3 o2, w1.sg.1]
theorem sa_sg {br : Rat → Rat → Prop} {f : Rat → Rat} (hn : nz br f) : ∃ x y, br x y ∧ ∃ σ : Int, (σ = 1 ∨ σ = -1) ∧ sa br f σ ∧ ∃ ε : Rat, 0 < ε ∧ ∀ t, x ≤ t → t ≤ y → ε ≤ σ * f t := by
  rcases hn with hs | hs
  · obtain ⟨x, y, hb, ε, hε, h1⟩ := hs
    exact ⟨x, y, hb, 1, Or.inl rfl, ⟨x, y, hb, ε, hε, h1⟩, ε, hε, h1⟩
  · obtain ⟨x, y, hb, ε, hε, h1⟩ := hs
    exact ⟨x, y, hb, -1, Or.inr rfl, ⟨x, y, hb, ε, hε, h1⟩, ε, hε, h1⟩
theorem sa.uniq {br : Rat → Rat → Prop} (hp : pla br) {f : Rat → Rat} {σ τ : Int} (hσ : σ = 1 ∨ σ = -1) (hτ : τ = 1 ∨ τ = -1) (h1 : sa br f σ) (h2 : sa br f τ) : σ = τ := by
  rcases hσ with e | e <;> rcases hτ with g | g <;> subst e <;> subst g
  · rfl
  · exact absurd h2 (h1.excl hp)
  · exact absurd h1 (h2.excl hp)
  · rfl
/-- the sign of g at root i, from what the chain loses around it -/
theorem rct.tarski (h : rct q s N B) (ql : lp q) {k : Nat → Rat → Rat} {m : Nat} {a c : Nat → Rat} {gg : Nat → Rat → Rat} (hc : chn k m a c gg) {d U W q1 u w g Q : Rat → Rat} (ld : lp d) (lU : lp U) (lW : lp W) (lq1 : lp q1) (lu : lp u) (lw : lp w) (lg : lp g) (lQ : lp Q) (dq : df q q1) (e : ∀ x, q x = d x * k 0 x) (bz : ∀ x, U x * d x + W x * k 0 x = 1) (bq : ∀ x, u x * q x + w x * q1 x = 1) {α β : Rat} (hα : 0 < α) (hβ : 0 < β) (tk : 1 ≤ m → ∀ x, α * (q1 x * g x) = Q x * q x + β * (d x * k 1 x)) (tk0 : m = 0 → ∀ x, α * (q1 x * g x) = Q x * q x) {lo hi : Rat} {i : Int} (hl : ab lo B) (hh : ab hi B) (h1 : N lo = i) (h2 : N hi = i + 1) (q1n : q lo ≠ 0) (q2n : q hi ≠ 0) : (vx k m lo - vx k m hi = 0 ∧ vz (rb q N B i) g) ∨ ((vx k m lo - vx k m hi = 1 ∨ vx k m lo - vx k m hi = -1) ∧ sa (rb q N B i) g (vx k m lo - vx k m hi)) := by
  have hlh : lo < hi := by
    by_cases hc : lo < hi
    · exact hc
    · have := h.mono hh hl (by grind); omega
  have hb0 : rb q N B i lo hi := ⟨hl, hh, hlh, by omega, by omega, fun h0 => absurd h0 q2n⟩
  have hp := h.pla ql hb0
  have vq := h.vzq ql hb0
  have nq1 := bz_nz hp lu lw lq1 bq vq
  have wk := fun {δ : Rat} (hδ : 0 < δ) => h.walk ql hc ld lU lW e bz hδ
  rcases (wk (show (0 : Rat) < 1 by grind) lo hi hl hh hlh q1n q2n).2 (by omega) with ⟨v0, dch⟩ | ⟨dk, hm, _⟩
  · left
    refine ⟨by omega, ?_⟩
    have vd := h.facz ql ld (hc.kl 0 (by omega)) lU lW e bz hl hh h1 h2 q1n q2n dch
    have h3 : vz (rb q N B i) (fun x => q1 x * g x) := by
      rcases Nat.eq_zero_or_pos m with h0 | h0
      · exact ((vq.mul hp lQ).mul hp (lp.const (1 / α))).congr (fun x => div_out hα (tk0 h0 x) (by grind))
      · have h4 := (vq.mul hp lQ).add hp ((vd.mul hp (hc.kl 1 (by omega))).mul hp (lp.const β))
        exact (h4.mul hp (lp.const (1 / α))).congr (fun x => div_out hα (tk h0 x) (by grind))
    exact vz.of_mul hp lg (h3.congr (fun x => by grind)) nq1
  · right
    have nd := h.facn ql ld (hc.kl 0 (by omega)) lU lW e bz hl hh h1 h2 q1n q2n dk
    have k0ch : k 0 lo * k 0 hi < 0 := by
      rcases (h.fac1 ql ld (hc.kl 0 (by omega)) lU lW e bz lo hi hl hh hlh q1n q2n).2 (by omega) with a | a
      · exfalso; have := a.1; unfold keep at dk; grind
      · exact a.2
    have vk0 : vz (rb q N B i) (k 0) := by
      have bz' : ∀ x, W x * k 0 x + U x * d x = 1 := fun x => by have := bz x; grind
      exact h.facz ql (hc.kl 0 (by omega)) ld lW lU (fun x => by rw [e]; grind) bz' hl hh h1 h2 q1n q2n k0ch
    obtain ⟨u1, w1, lu1, lw1, bk⟩ := hc.bez (m - 1) 0 (by omega)
    have nk1 := bz_nz hp lu1 lw1 (hc.kl 1 (by omega)) bk vk0
    obtain ⟨xa, ya, ba, κ, hκ, sκ, εa, hεa, fa⟩ := sa_sg nd
    obtain ⟨xb, yb, bb, τ, hτ, sτ, εb, hεb, fb⟩ := sa_sg nk1
    obtain ⟨xc, yc, bc, ρ, hρ, sρ, εc, hεc, fc⟩ := sa_sg nq1
    have ng : nz (rb q N B i) g := by
      rcases hp.dich lg with hv | hn
      · exfalso
        have h4 := ((nd.mul hp nk1).mul hp (nz.const hp (show β ≠ 0 by grind))).not hp
        apply h4
        exact (((hv.mul hp lq1).mul hp (lp.const α)).add hp ((vq.mul hp lQ).mul hp (lp.const (-1)))).congr (fun x => by have := tk hm x; grind)
      · exact hn
    obtain ⟨xd, yd, bd, γ, hγ, sγ, εd, hεd, fd⟩ := sa_sg ng
    obtain ⟨x1, y1, b1, o1, o2, o3, o4⟩ := hp.2.1 _ _ _ _ ba bb
    obtain ⟨x2, y2, b2, o5, o6, o7, o8⟩ := hp.2.1 _ _ _ _ bc b1
    obtain ⟨δ, hδ, rise⟩ := dq.rise hεc B
    obtain ⟨x0, y0, b0, r1, r2, r3, r4, r5, r6, n1, n2, qx, qy⟩ := h.small ql hl hh h1 h2 q1n q2n b2 (show (0 : Rat) < 1 by grind)
    -- the loss is that over the small stretch
    have vlo : vx k m lo = vx k m x0 := by
      by_cases hcs : lo < x0
      · exact ((wk (show (0 : Rat) < 1 by grind) lo x0 hl b0.1 hcs q1n qx).1 (by omega)).1
      · rw [show x0 = lo by grind]
    have vhi : vx k m y0 = vx k m hi := by
      by_cases hcs : y0 < hi
      · exact ((wk (show (0 : Rat) < 1 by grind) y0 hi b0.2.1 hh hcs qy q2n).1 (by omega)).1
      · rw [show y0 = hi by grind]
    have kd : keep d x0 y0 := by
      have e1 := fa x0 (by grind) (by grind)
      have e2 := fa y0 (by grind) (by grind)
      refine keep_of_sg ?_
      have s1 := (sgr_mul hκ (d x0)).1.1 (by grind)
      have s2 := (sgr_mul hκ (d y0)).1.1 (by grind)
      exact ⟨by omega, by omega⟩
    rcases (wk hδ x0 y0 b0.1 b0.2.1 r2 qx qy).2 (by omega) with ⟨_, dch⟩ | ⟨_, _, x', y', p1, p2, p3, p4, p5, p6, p7⟩
    · exfalso; unfold keep at kd; grind
    have hx' := ab_mid b0.1 b0.2.1 p1 (show x' ≤ y0 by grind)
    have hy' := ab_mid b0.1 b0.2.1 (show x0 ≤ y' by grind) p3
    have rs := rise x' y' hx' hy' p2 p4
    have s1 : sgr (d x') = κ := (sgr_mul hκ _).1.1 (by have := fa x' (by grind) (by grind); grind)
    have s2 : sgr (d y') = κ := (sgr_mul hκ _).1.1 (by have := fa y' (by grind) (by grind); grind)
    have s3 : sgr (k 1 y') = τ := (sgr_mul hτ _).1.1 (by have := fb y' (by grind) (by grind); grind)
    have f1 := fc x' (by grind) (by grind)
    -- q at x' and y'
    have qq : q x' * q y' < 0 := by
      rw [e, e]
      have kd' : 0 < d x' * d y' := keep_of_sg (f := d) (x := x') (y := y') ⟨by omega, by omega⟩
      exact fac_sg.2.2 ⟨kd', p5⟩
    have sq : sgr (q y') = ρ := by
      have o := sgr_opp qq
      clear wk rise
      rcases hρ with e1 | e1 <;> subst e1
      · have := rs.1 (by grind)
        rcases sgr_r (q y') with g' | g' | g' <;> rcases sgr_r (q x') with g'' | g'' | g'' <;> grind
      · have := rs.2 (by grind)
        rcases sgr_r (q y') with g' | g' | g' <;> rcases sgr_r (q x') with g'' | g'' | g'' <;> grind
    have sk0 : sgr (k 0 y') = κ * ρ := by
      have hq : sgr (d y' * k 0 y') = ρ := by rw [← e]; exact sq
      have sd := sgr_r (d y')
      have sk := sgr_r (k 0 y')
      rcases hκ with e1 | e1
      · have : 0 < d y' := by rcases sd with g' | g' | g' <;> first | exact g'.2 | omega
        rw [sgr_pos_mul this] at hq
        rw [hq, e1]; omega
      · have : 0 < - d y' := by
          rcases sd with g' | g' | g'
          · grind
          · omega
          · omega
        have h5 := sgr_pos_mul (b := - k 0 y') this
        rw [show - d y' * - k 0 y' = d y' * k 0 y' by grind, hq] at h5
        have h6 : sgr (- k 0 y') = - sgr (k 0 y') := by
          rcases sgr_r (k 0 y') with g' | g' | g' <;> rcases sgr_r (- k 0 y') with g'' | g'' | g'' <;> grind
        rw [h6] at h5
        rw [e1]; omega
    have fin : ρ * γ = κ * τ := by
      have m1 := (sρ.mul hp sγ)
      have c1 : sa (rb q N B i) (fun _ => α) 1 := ⟨x0, y0, b0, α, hα, fun t _ _ => by grind⟩
      have c2 : sa (rb q N B i) (fun _ => β) 1 := ⟨x0, y0, b0, β, hβ, fun t _ _ => by grind⟩
      have m2 := (c1.mul hp m1)
      have m3 := (c2.mul hp (sκ.mul hp sτ))
      have hkt : 1 * (κ * τ) = 1 ∨ 1 * (κ * τ) = -1 := by rcases hκ with e | e <;> rcases hτ with f | f <;> subst e <;> subst f <;> decide
      have hrg : 1 * (ρ * γ) = 1 ∨ 1 * (ρ * γ) = -1 := by rcases hρ with e | e <;> rcases hγ with f | f <;> subst e <;> subst f <;> decide
      have m4 := (m3.addz hp hkt (vq.mul hp lQ)).congr (g := fun x => α * (q1 x * g x)) (fun x => by have := tk hm x; grind)
      have := sa.uniq hp hrg hkt m2 m4
      omega
    have res : vx k m lo - vx k m hi = γ := by
      rw [vlo, ← vhi, p7, sk0, s3]
      rcases hκ with e | e <;> rcases hτ with f | f <;> rcases hρ with e' | e' <;> rcases hγ with f' | f' <;> subst e <;> subst f <;> subst e' <;> subst f' <;> omega
    rw [res]
    exact ⟨hγ, sγ⟩
end
