def upN (A B : Nat) : Nat := if A % B = 0 then A / B else A / B + 1
/-- the magnitude of the whole number asked for: how 1: above, 0: the nearest, else below -/
def GG (s : Bool) (k : Int32) (A B : Nat) : Nat := if k = 1 then (bif s then A / B else upN A B) else if k = 0 then FP.Core.nearest A B else (bif s then upN A B else A / B)
/-- whether one is added to the whole number below -/
def upB (k : Int32) (f : Int) (r B : Nat) : Prop := if k = 1 then 0 < r else if k = 0 then (B < 2 * r ∨ (2 * r = B ∧ f % 2 = 1)) else False
theorem gg_ok (s : Bool) (k : Int32) {A B : Nat} (hB : 0 < B) (w : Int) (hw : (upB k (flZ s A B) (rsN s A B) B → w = flZ s A B + 1) ∧ (¬ upB k (flZ s A B) (rsN s A B) B → w = flZ s A B)) : w = FP.Core.signed s (GG s k A B) := by
  have hr := Nat.mod_lt A hB
  unfold upB GG flZ rsN upN FP.Core.signed at *
  by_cases k1 : k = 1
  · simp only [if_pos k1] at *
    cases s
    · simp only [cond_false, Bool.false_eq_true, if_false] at *
      by_cases h0 : A % B = 0
      · rw [if_pos h0]; exact hw.2 (by omega)
      · rw [if_neg h0]; rw [hw.1 (by omega)]; omega
    · simp only [cond_true, if_true] at *
      by_cases h0 : A % B = 0
      · simp only [if_pos h0] at hw
        rw [hw.2 (by omega)]
      · simp only [if_neg h0] at hw
        rw [hw.1 (by omega)]; omega
  · simp only [if_neg k1] at *
    by_cases k0 : k = 0
    · simp only [if_pos k0] at *
      unfold FP.Core.nearest
      cases s
      · simp only [cond_false, Bool.false_eq_true, if_false] at *
        by_cases h1 : 2 * (A % B) < B
        · rw [if_pos h1]; exact hw.2 (by omega)
        · rw [if_neg h1]
          by_cases h2 : B < 2 * (A % B)
          · rw [if_pos h2, hw.1 (Or.inl h2)]; omega
          · rw [if_neg h2]
            by_cases h3 : A / B % 2 = 1
            · rw [hw.1 (Or.inr ⟨by omega, by omega⟩)]; omega
            · rw [hw.2 (by omega)]; omega
      · simp only [cond_true, if_true] at *
        by_cases h0 : A % B = 0
        · simp only [if_pos h0] at hw
          rw [if_pos (by omega), hw.2 (by omega)]
        · simp only [if_neg h0] at hw
          by_cases h1 : 2 * (A % B) < B
          · rw [if_pos h1, hw.1 (Or.inl (by omega))]; omega
          · rw [if_neg h1]
            by_cases h2 : B < 2 * (A % B)
            · rw [if_pos h2, hw.2 (by omega)]; omega
            · rw [if_neg h2]
              by_cases h3 : A / B % 2 = 1
              · rw [hw.2 (by omega)]; omega
              · rw [hw.1 (Or.inr ⟨by omega, by omega⟩)]; omega
    · simp only [if_neg k0] at *
      cases s
      · simp only [cond_false, Bool.false_eq_true, if_false] at *
        exact hw.2 (fun h => h)
      · simp only [cond_true, if_true] at *
        rw [hw.2 (fun h => h)]
        by_cases h0 : A % B = 0
        · rw [if_pos h0, if_pos h0]
        · rw [if_neg h0, if_neg h0]; omega
theorem l2d_fin' {a : Int64} (h : a.toInt.natAbs ≤ 2 ^ 53) : ∃ c q, FP.Core.val64 (FP.Core.l2d a) = .fin (decide (a.toInt < 0)) c q ∧ FP.Core.fits FP.Core.b64 (.fin (decide (a.toInt < 0)) c q) ∧ FP.Core.signed (decide (a.toInt < 0)) (FP.Core.inUnits c q FP.Core.b64.qmin) = a.toInt * (FP.Core.one64 : Int) := by
  obtain ⟨c, q, h1⟩ := FP.Core.l2d_shape a
  have h2 := FP.Core.DInt_zval (FP.Core.l2d_int h)
  have h3 := FP.Core.val64_fits (FP.Core.l2d a)
  rw [h1] at h2 h3
  exact ⟨c, q, h1, h3, h2⟩
set_option maxHeartbeats 4000000 in
theorem whole_ok {x : UInt64} {s : Bool} {c A : Nat} {q : Int} (hv : FP.Core.val64 x = .fin s c q) (hA' : FP.Core.inUnits c q FP.Core.b64.qmin = A) (hA : A < 4503599627370496 * FP.Core.one64) (k : Int32) : ∃ c' q', FP.Core.val64 (sX5_whole x k) = .fin s c' q' ∧ FP.Core.inUnits c' q' FP.Core.b64.qmin = GG s k A FP.Core.one64 * FP.Core.one64 := by
  have hB := FP.Core.one64_pos
  have hfit : FP.Core.fits FP.Core.b64 (.fin s c q) := hv ▸ FP.Core.val64_fits x
  have hnx : FP.Core.val64 x ≠ .nan := by rw [hv]; intro h; cases h
  have hzv : FP.Core.zval FP.Core.b64 (FP.Core.val64 x) = FP.Core.signed s A := by rw [hv, ← hA']; rfl
  have hzm : FP.Core.zmag FP.Core.b64 (FP.Core.val64 x) = A := by rw [hv, ← hA']; rfl
  have hsg : FP.Core.sgn (FP.Core.val64 x) = s := by rw [hv]; rfl
  have hrf : (s = false ∨ FP.Core.one64 ≤ 2 * A ∨ A = 0) → ∃ K E, rsN s A FP.Core.one64 = K * 2 ^ E ∧ K < 2 ^ 53 ∧ E ≤ 1074 := fun h => by
    have := rest_form hfit (by rw [hA']; exact hA) (by rw [hA']; exact h)
    rw [hA'] at this; exact this
  have hfr := fl_rs s (A := A) hB
  have hg52 : A / FP.Core.one64 < 4503599627370496 := by rw [Nat.div_lt_iff_lt_mul hB]; exact hA
  have hrm := Nat.mod_lt A hB
  have hdm := Nat.div_add_mod A FP.Core.one64
  have z52 := zv_52
  have z52n := zv_52n
  have zh := zv_half
  have z0 := FP.Core.zval64_zero
  have z1 := zv_one
  have hdl := FP.Core.d2l_val hnx
  rw [hzm, hsg] at hdl
  generalize FP.Core.one64 = B at *
  -- the range
  have hin1 : Op.cmpValue (FP.dcmp x (4841369599423283200 : UInt64)) CmpOp.l < 0 := by
    rw [cv_lt hnx nn_52, hzv, z52]
    have : ((4503599627370496 : Nat) : Int) * (B : Int) = ((4503599627370496 * B : Nat) : Int) := by rw [Int.natCast_mul]
    rw [this]
    unfold FP.Core.signed
    split <;> omega
  have hin2 : 0 < Op.cmpValue (FP.dcmp x (14064741636278059008 : UInt64)) CmpOp.g := by
    rw [cv_gt hnx nn_52n, hzv, z52n]
    have : ((4503599627370496 : Nat) : Int) * (B : Int) = ((4503599627370496 * B : Nat) : Int) := by rw [Int.natCast_mul]
    rw [this]
    unfold FP.Core.signed
    split <;> omega
  sorry
