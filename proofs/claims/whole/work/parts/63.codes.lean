/-! Codes with a sign, and their sums. -/
def cdN (f : FP.Core.Fmt) (s : Bool) (m : Nat) : Nat := s.toNat * FP.Core.half f + m
theorem cdN_lt {f : FP.Core.Fmt} {s : Bool} {m : Nat} (h : m < FP.Core.half f) : cdN f s m < 2 * FP.Core.half f := by
  unfold cdN; cases s <;> simp <;> omega
theorem cdN_mag {f : FP.Core.Fmt} {s : Bool} {m : Nat} (h : m < FP.Core.half f) : FP.Core.mag f (cdN f s m) = m := by
  unfold cdN FP.Core.mag
  rw [Nat.add_comm, Nat.add_mul_mod_self_right, Nat.mod_eq_of_lt h]
theorem cdN_sgn {f : FP.Core.Fmt} {s : Bool} {m : Nat} (h : m < FP.Core.half f) : FP.Core.fieldS f (cdN f s m) = s := by
  rw [FP.Core.fieldS_mag f (cdN_lt h)]
  unfold cdN
  cases s <;> simp <;> omega
theorem dec_inf {f : FP.Core.Fmt} (s : Bool) : FP.Core.decode f (cdN f s (FP.Core.infBits f)) = .inf s := by
  have h := FP.Core.infBits_lt f
  rw [FP.Core.decode_inf (cdN_mag h), cdN_sgn h]
theorem dec_fin {f : FP.Core.Fmt} (hf : FP.Core.Good f) (s : Bool) {m : Nat} (hm : m < FP.Core.infBits f) : ∃ c q, FP.Core.decode f (cdN f s m) = .fin s c q ∧ FP.Core.fits f (.fin s c q) ∧ FP.Core.inUnits c q f.qmin = FP.Core.unitsOf f m := by
  have h := FP.Core.infBits_lt f
  obtain ⟨c, q, h1, h2⟩ := FP.Core.decode_fin (f := f) (n := cdN f s m) (by rw [cdN_mag (by omega)]; exact hm)
  rw [cdN_sgn (by omega)] at h1
  rw [cdN_mag (by omega)] at h2
  exact ⟨c, q, h1, h1 ▸ FP.Core.decode_fits hf _, h2⟩
theorem sum_full {f : FP.Core.Fmt} {s t : Bool} {c d : Nat} {q r : Int} (hx : FP.Core.fits f (.fin s c q)) (hy : FP.Core.fits f (.fin t d r)) :
    ∃ n e, FP.Core.exactSum (.fin s c q) (.fin t d r) = .fin (FP.Core.sumSign s t (FP.Core.signed s (FP.Core.inUnits c q f.qmin) + FP.Core.signed t (FP.Core.inUnits d r f.qmin))) n e ∧ f.qmin ≤ e ∧ FP.Core.inUnits n e f.qmin = (FP.Core.signed s (FP.Core.inUnits c q f.qmin) + FP.Core.signed t (FP.Core.inUnits d r f.qmin)).natAbs := by
  have h1 := hx.2.1
  have h2 := hy.2.1
  have hz : FP.Core.signed s (FP.Core.inUnits c q f.qmin) + FP.Core.signed t (FP.Core.inUnits d r f.qmin) = FP.Core.sumUnits s c q t d r (min q r) * ((2 ^ (min q r - f.qmin).toNat : Nat) : Int) := by
    unfold FP.Core.sumUnits
    rw [Int.add_mul, ← FP.Core.signed_mul, ← FP.Core.signed_mul]
    rw [← FP.Core.inUnits_move c (q := q) (e := f.qmin) (r := min q r) (by omega) (by omega), ← FP.Core.inUnits_move d (q := r) (e := f.qmin) (r := min q r) (by omega) (by omega)]
  have h2p : 0 < ((2 ^ (min q r - f.qmin).toNat : Nat) : Int) := by have := Nat.two_pow_pos (min q r - f.qmin).toNat; omega
  rw [hz]
  refine ⟨(FP.Core.sumUnits s c q t d r (min q r)).natAbs, min q r, ?_, by omega, by rw [Int.natAbs_mul]; rfl⟩
  · show FP.Core.Datum.fin (FP.Core.sumSign s t (FP.Core.sumUnits s c q t d r (min q r))) _ _ = _
    congr 1
    unfold FP.Core.sumSign
    generalize FP.Core.sumUnits s c q t d r (min q r) = z
    generalize ((2 ^ (min q r - f.qmin).toNat : Nat) : Int) = w at h2p
    by_cases h0 : z = 0
    · rw [if_pos h0, if_pos (by rw [h0]; simp)]
    · rw [if_neg h0, if_neg (fun h => (Int.mul_eq_zero.mp h).elim h0 (by omega))]
      congr 1
      apply propext
      constructor
      · intro h; exact Int.mul_neg_of_neg_of_pos h h2p
      · intro h
        rcases Int.lt_or_le z 0 with h3 | h3
        · exact h3
        · have := Int.mul_nonneg h3 (Int.le_of_lt h2p)
          omega
theorem round_units {f : FP.Core.Fmt} (s : Bool) {n Z : Nat} {e : Int} (he : f.qmin ≤ e) (h : FP.Core.inUnits n e f.qmin = Z) : FP.Core.round f (.fin s n e) = FP.Core.roundRatio f s Z 1 f.qmin := by
  subst h
  refine FP.Core.roundRatio_congr (by decide) (by decide) ?_
  unfold FP.Core.inUnits
  rw [show (f.qmin - e).toNat = 0 by omega]
  simp
def adS (s : Bool) (m : Nat) (t : Bool) (k : Nat) : Bool := if s = t then s else if m < k then t else if k < m then s else false
def adM (T EI : Nat) (s : Bool) (m : Nat) (t : Bool) (k : Nat) : Nat := if tgN T (s != t) (max m k) (min m k) = 0 then 0 else rdN T EI (tgN T (s != t) (max m k) (min m k)) (exN T (max m k))
theorem enc_zero {f : FP.Core.Fmt} (hf : FP.Core.Good f) (s : Bool) : FP.Core.encode f (FP.Core.roundRatio f s 0 1 f.qmin) = cdN f s 0 := by
  have hT := FP.Core.tails_pos f
  rw [kl1 hf s (j := 0) (by decide) (by simp; omega) (Or.inl rfl)]
  simp [cdN, FP.Core.nearest]
theorem ad_ok {f : FP.Core.Fmt} (hf : FP.Core.Good f) (hT : 32 * f.tails ≤ 2 ^ 58) (sub s : Bool) {l r : Nat} (hr : r ≤ l) :
    FP.Core.encode f (FP.Core.roundRatio f s (zN f sub l r) 1 f.qmin) = cdN f s (if tgN f.tails sub l r = 0 then 0 else rdN f.tails (f.exps - 1) (tgN f.tails sub l r) (exN f.tails l)) := by
  obtain ⟨h1, h2⟩ := tg_ok hf hT sub s hr
  by_cases h0 : tgN f.tails sub l r = 0
  · rw [if_pos h0, h1.mp h0]; exact enc_zero hf s
  · rw [if_neg h0, h2 (by omega)]; rfl
/-- the sum's magnitude in units, before it is rounded -/
def adZ (f : FP.Core.Fmt) (s : Bool) (m : Nat) (t : Bool) (k : Nat) : Nat := zN f (s != t) (max m k) (min m k)
theorem adZ_ok {f : FP.Core.Fmt} (s t : Bool) (m k : Nat) : (FP.Core.signed s (FP.Core.unitsOf f m) + FP.Core.signed t (FP.Core.unitsOf f k)).natAbs = adZ f s m t k ∧ FP.Core.sumSign s t (FP.Core.signed s (FP.Core.unitsOf f m) + FP.Core.signed t (FP.Core.unitsOf f k)) = adS s m t k := by
  unfold adZ adS zN FP.Core.sumSign FP.Core.signed
  have h1 := FP.Core.unitsOf_lt_iff (f := f) (m := m) (k := k)
  have h2 := FP.Core.unitsOf_lt_iff (f := f) (m := k) (k := m)
  rcases Nat.lt_trichotomy m k with h | h | h
  · rw [Nat.max_eq_right (by omega), Nat.min_eq_left (by omega)]
    have h3 := h1.mpr h
    generalize FP.Core.unitsOf f m = A at *
    generalize FP.Core.unitsOf f k = B at *
    cases s <;> cases t <;> refine ⟨?_, ?_⟩ <;> simp only [show (false != false) = false from rfl, show (false != true) = true from rfl, show (true != false) = true from rfl, show (true != true) = false from rfl, cond_true, cond_false, if_true, if_false, Bool.and_self, Bool.and_false, Bool.false_and, reduceCtorEq, Bool.false_eq_true] <;> (repeat' split) <;> first | omega | (simp only [decide_eq_true_eq, decide_eq_false_iff_not]; omega) | (exfalso; omega) | rfl
  · subst h
    rw [Nat.max_self, Nat.min_self]
    generalize FP.Core.unitsOf f m = A at *
    cases s <;> cases t <;> refine ⟨?_, ?_⟩ <;> simp only [show (false != false) = false from rfl, show (false != true) = true from rfl, show (true != false) = true from rfl, show (true != true) = false from rfl, cond_true, cond_false, if_true, if_false, Bool.and_self, Bool.and_false, Bool.false_and, reduceCtorEq, Bool.false_eq_true] <;> (repeat' split) <;> first | omega | (simp only [decide_eq_true_eq, decide_eq_false_iff_not]; omega) | (exfalso; omega) | rfl
  · rw [Nat.max_eq_left (by omega), Nat.min_eq_right (by omega)]
    have h3 := h2.mpr h
    generalize FP.Core.unitsOf f m = A at *
    generalize FP.Core.unitsOf f k = B at *
    cases s <;> cases t <;> refine ⟨?_, ?_⟩ <;> simp only [show (false != false) = false from rfl, show (false != true) = true from rfl, show (true != false) = true from rfl, show (true != true) = false from rfl, cond_true, cond_false, if_true, if_false, Bool.and_self, Bool.and_false, Bool.false_and, reduceCtorEq, Bool.false_eq_true] <;> (repeat' split) <;> first | omega | (simp only [decide_eq_true_eq, decide_eq_false_iff_not]; omega) | (exfalso; omega) | rfl
theorem sum_round {f : FP.Core.Fmt} (hf : FP.Core.Good f) {s t : Bool} {m k : Nat} (hm : m < FP.Core.infBits f) (hk : k < FP.Core.infBits f) : ∃ n e, FP.Core.exactSum (FP.Core.decode f (cdN f s m)) (FP.Core.decode f (cdN f t k)) = .fin (adS s m t k) n e ∧ f.qmin ≤ e ∧ FP.Core.inUnits n e f.qmin = adZ f s m t k := by
  obtain ⟨c, q, h1, h2, h3⟩ := dec_fin hf s hm
  obtain ⟨d, r, g1, g2, g3⟩ := dec_fin hf t hk
  obtain ⟨n, e, e1, e2, e3⟩ := sum_full h2 g2
  rw [h1, g1]
  rw [h3, g3] at e1 e3
  obtain ⟨z1, z2⟩ := adZ_ok (f := f) s t m k
  exact ⟨n, e, by rw [e1, z2], e2, by rw [e3, z1]⟩
theorem sum_code {f : FP.Core.Fmt} (hf : FP.Core.Good f) (hT : 32 * f.tails ≤ 2 ^ 58) {s t : Bool} {m k : Nat} (hm : m < FP.Core.infBits f) (hk : k < FP.Core.infBits f) :
    FP.Core.add f (cdN f s m) (cdN f t k) = cdN f (adS s m t k) (adM f.tails (f.exps - 1) s m t k) := by
  obtain ⟨n, e, h1, h2, h3⟩ := sum_round hf (s := s) (t := t) hm hk
  unfold FP.Core.add
  rw [h1, round_units _ h2 h3]
  exact ad_ok hf hT (s != t) (adS s m t k) (by omega)
