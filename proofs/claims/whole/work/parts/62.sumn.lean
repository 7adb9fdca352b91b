/-! Sums, on whole numbers. -/
def exN (T m : Nat) : Nat := max 1 (m / T)
def sgN (T m : Nat) : Nat := if m < T then m else T + m % T
theorem un_eq {f : FP.Core.Fmt} (m : Nat) : FP.Core.unitsOf f m = sgN f.tails m * 2 ^ (exN f.tails m - 1) := by
  have hT := FP.Core.tails_pos f
  unfold FP.Core.unitsOf sgN exN
  by_cases h : m < f.tails
  · rw [if_pos h, if_pos h, Nat.div_eq_of_lt h]; simp
  · rw [if_neg h, if_neg h]
    have : 1 ≤ m / f.tails := (Nat.le_div_iff_mul_le hT).mpr (by omega)
    rw [Nat.max_eq_right this]
theorem sgN_lt {T m : Nat} (hT : 0 < T) : sgN T m < 2 * T := by
  unfold sgN
  have := Nat.mod_lt m hT
  split <;> omega
theorem exN_pos {T m : Nat} : 1 ≤ exN T m := by unfold exN; omega
theorem exN_mono {T m k : Nat} (h : m ≤ k) : exN T m ≤ exN T k := by
  unfold exN
  have : m / T ≤ k / T := Nat.div_le_div_right h
  omega
theorem sgN_ge {T m : Nat} (h : 2 ≤ exN T m) : T ≤ sgN T m := by
  unfold sgN
  by_cases h1 : m < T
  · exfalso
    unfold exN at h
    rw [Nat.div_eq_of_lt h1] at h
    omega
  · rw [if_neg h1]; omega
theorem sgN_zero {T m : Nat} (hT : 0 < T) (h : sgN T m = 0) : m = 0 := by
  unfold sgN at h
  split at h <;> omega
/-- most and rest together: the sum of two magnitudes, or their difference, at the greater one's exponent, eightfold -/
def tgN (T : Nat) (sub : Bool) (l r : Nat) : Nat := bif sub then 8 * sgN T l - shd (8 * sgN T r) (exN T l - exN T r) else 8 * sgN T l + shd (8 * sgN T r) (exN T l - exN T r)
def zN (f : FP.Core.Fmt) (sub : Bool) (l r : Nat) : Nat := bif sub then FP.Core.unitsOf f l - FP.Core.unitsOf f r else FP.Core.unitsOf f l + FP.Core.unitsOf f r
theorem tg_ok {f : FP.Core.Fmt} (hf : FP.Core.Good f) (hT : 32 * f.tails ≤ 2 ^ 58) (sub s : Bool) {l r : Nat} (hr : r ≤ l) :
    (tgN f.tails sub l r = 0 ↔ zN f sub l r = 0) ∧ (0 < tgN f.tails sub l r → FP.Core.encode f (FP.Core.roundRatio f s (zN f sub l r) 1 f.qmin) = s.toNat * FP.Core.half f + rdN f.tails (f.exps - 1) (tgN f.tails sub l r) (exN f.tails l)) := by
  have hT2 := FP.Core.tails_two hf
  have hU := FP.Core.unitsOf_le_iff (f := f).mpr hr
  unfold zN
  rw [un_eq l, un_eq r] at *
  have hl2 : sgN f.tails l < 2 * f.tails := sgN_lt (by omega)
  have hr2 : sgN f.tails r < 2 * f.tails := sgN_lt (by omega)
  have hxm := exN_mono (T := f.tails) hr
  have hxr : 1 ≤ exN f.tails r := exN_pos
  have hge := sgN_ge (T := f.tails) (m := l)
  obtain ⟨d, hd⟩ : ∃ d, exN f.tails l - exN f.tails r = d := ⟨_, rfl⟩
  unfold tgN
  rw [hd]
  have hpl : 2 ^ (exN f.tails l - 1) = 2 ^ d * 2 ^ (exN f.tails r - 1) := by rw [← Nat.pow_add]; congr 1; omega
  have h2d : 0 < 2 ^ d := Nat.two_pow_pos d
  have h2r : 0 < 2 ^ (exN f.tails r - 1) := Nat.two_pow_pos _
  generalize hex : exN f.tails l = xl at *
  generalize exN f.tails r = xr at *
  generalize sgN f.tails l = a at *
  generalize sgN f.tails r = b at *
  rw [hpl] at hU
  rw [hpl]
  have hba : b ≤ a * 2 ^ d := by
    have : b * 2 ^ (xr - 1) ≤ a * 2 ^ d * 2 ^ (xr - 1) := by rw [Nat.mul_assoc]; exact hU
    exact Nat.le_of_mul_le_mul_right this h2r
  have hS : Stk 1 (shd (8 * b) d) (8 * b) (1 * 2 ^ d) := shd_stk (by decide) (Or.inl (by simp)) (by omega)
  rw [Nat.one_mul] at hS
  have hlt : shd (8 * b) d < 16 * f.tails := by
    rcases Nat.eq_zero_or_pos d with h | h
    · subst h; unfold shd; rw [if_pos (by decide)]; simp; omega
    · exact shd_lt (by omega) h (by omega)
  have hexact : d ≤ 3 → 8 * b = shd (8 * b) d * 2 ^ d := by
    intro h
    unfold shd
    rw [if_pos (by omega)]
    rcases (show d = 0 ∨ d = 1 ∨ d = 2 ∨ d = 3 by omega) with rfl | rfl | rfl | rfl <;> (rw [if_pos (by omega)]; omega)
  have hsm : 4 ≤ d → shd (8 * b) d ≤ f.tails := by
    intro h
    have h16 : 2 ^ 4 ≤ 2 ^ d := Nat.pow_le_pow_right (by decide) h
    have : 8 * b / 2 ^ d ≤ 8 * b / 2 ^ 4 := Nat.div_le_div_left h16 (by decide)
    unfold shd
    split
    · split <;> omega
    · split <;> omega
  generalize shd (8 * b) d = w at *
  have hxl1 : 1 ≤ xl := by omega
  -- the value at the greater one's exponent
  have hval : ∀ Z : Nat, (Z = a * (2 ^ d * 2 ^ (xr - 1)) + b * 2 ^ (xr - 1) → FP.Core.roundRatio f s Z 1 f.qmin = FP.Core.roundRatio f s (8 * a * 2 ^ d + 8 * b) (8 * 2 ^ d) (f.qmin + ((xl : Int) - 1))) ∧ (Z = a * (2 ^ d * 2 ^ (xr - 1)) - b * 2 ^ (xr - 1) → FP.Core.roundRatio f s Z 1 f.qmin = FP.Core.roundRatio f s (8 * a * 2 ^ d - 8 * b) (8 * 2 ^ d) (f.qmin + ((xl : Int) - 1))) := by
    intro Z
    have e1 : (f.qmin - (f.qmin + ((xl : Int) - 1))).toNat = 0 := by omega
    have e2 : (f.qmin + ((xl : Int) - 1) - f.qmin).toNat = xl - 1 := by omega
    have e3 : 2 ^ (xl - 1) = 2 ^ d * 2 ^ (xr - 1) := hpl
    constructor
    · rintro rfl
      refine FP.Core.roundRatio_congr (by decide) (by omega) ?_
      rw [e1, e2, e3, Nat.pow_zero, Nat.mul_one, Nat.mul_one, Nat.add_mul, Nat.add_mul]
      congr 1 <;> ac_rfl
    · rintro rfl
      refine FP.Core.roundRatio_congr (by decide) (by omega) ?_
      rw [e1, e2, e3, Nat.pow_zero, Nat.mul_one, Nat.mul_one, Nat.sub_mul, Nat.sub_mul]
      congr 1 <;> ac_rfl
  cases sub with
  | false =>
    simp only [cond_false]
    have hst : Stk 1 (8 * a + w) (8 * a * 2 ^ d + 8 * b) (2 ^ d) := by
      rcases hS with h | ⟨t, h0, h1, h2⟩
      · left; rw [h, Nat.add_mul]
      · have q1 : 1 * (2 * (4 * a + t)) * 2 ^ d = 8 * a * 2 ^ d + 1 * (2 * t) * 2 ^ d := by rw [← Nat.add_mul]; congr 1; omega
        have q2 : 1 * (2 * (4 * a + t) + 2) * 2 ^ d = 8 * a * 2 ^ d + 1 * (2 * t + 2) * 2 ^ d := by rw [← Nat.add_mul]; congr 1; omega
        exact Or.inr ⟨4 * a + t, by omega, by omega, by omega⟩
    constructor
    · constructor
      · intro h0
        have ha : a = 0 := by omega
        have hb : b = 0 := by subst ha; omega
        rw [ha, hb]; simp
      · intro h0
        have h1 : b * 2 ^ (xr - 1) = 0 := by omega
        have h2 : a * (2 ^ d * 2 ^ (xr - 1)) = 0 := by omega
        have hb : b = 0 := by
          rcases Nat.mul_eq_zero.mp h1 with h | h <;> omega
        have ha : a = 0 := by
          rcases Nat.mul_eq_zero.mp h2 with h | h
          · exact h
          · rcases Nat.mul_eq_zero.mp h with h | h <;> omega
        subst hb; subst ha
        rcases hS with h | ⟨t, h0, h1, h2⟩
        · have : w * 2 ^ d = 0 := by omega
          rcases Nat.mul_eq_zero.mp this with h | h <;> omega
        · omega
    · intro h0
      rw [((hval _).1 rfl)]
      refine rdN_ok hf hT s h2d hst h0 (by omega) ?_
      by_cases h3 : d ≤ 3
      · left; rw [hexact h3, Nat.add_mul]
      · right
        have := hge (by omega)
        omega
  | true =>
    simp only [cond_true]
    have h8 : 8 * b ≤ 8 * a * 2 ^ d := by rw [Nat.mul_assoc]; omega
    have hw : w ≤ 8 * a ∧ Stk 1 (8 * a - w) (8 * a * 2 ^ d - 8 * b) (2 ^ d) := by
      rcases hS with h | ⟨t, h0, h1, h2⟩
      · have : w ≤ 8 * a := Nat.le_of_mul_le_mul_right (by rw [← h]; exact h8) h2d
        exact ⟨this, Or.inl (by rw [h, Nat.sub_mul])⟩
      · rw [Nat.one_mul] at h0 h1 h2
        have h3 : 2 * t < 8 * a := Nat.lt_of_mul_lt_mul_right (Nat.lt_of_lt_of_le h1 h8)
        have q0 : 8 * a * 2 ^ d = 2 * (4 * a - t - 1) * 2 ^ d + (2 * t + 2) * 2 ^ d := by rw [← Nat.add_mul]; congr 1; omega
        have q1 : 8 * a * 2 ^ d = (2 * (4 * a - t - 1) + 2) * 2 ^ d + (2 * t) * 2 ^ d := by rw [← Nat.add_mul]; congr 1; omega
        exact ⟨by omega, Or.inr ⟨4 * a - t - 1, by omega, by rw [Nat.one_mul]; omega, by rw [Nat.one_mul]; omega⟩⟩
    obtain ⟨hw1, hst⟩ := hw
    have hz : 8 * a * 2 ^ d - 8 * b = 0 ↔ a * (2 ^ d * 2 ^ (xr - 1)) - b * 2 ^ (xr - 1) = 0 := by
      rw [← Nat.mul_assoc, ← Nat.sub_mul]
      constructor
      · intro h
        have : a * 2 ^ d - b = 0 := by rw [Nat.mul_assoc] at h; omega
        rw [this]; simp
      · intro h
        rcases Nat.mul_eq_zero.mp h with h | h
        · rw [Nat.mul_assoc]; omega
        · omega
    constructor
    · rw [← hz]
      constructor
      · intro h0
        rw [h0] at hst
        rcases hst with h | ⟨t, h1, -, -⟩
        · omega
        · omega
      · intro h0
        rw [h0] at hst
        rcases hst with h | ⟨t, h1, h2, -⟩
        · rcases Nat.mul_eq_zero.mp h.symm with h | h <;> omega
        · omega
    · intro h0
      rw [((hval _).2 rfl)]
      refine rdN_ok hf hT s h2d hst h0 (by omega) ?_
      by_cases h3 : d ≤ 3
      · left; rw [hexact h3, Nat.sub_mul]
      · right
        have := hge (by omega)
        omega
