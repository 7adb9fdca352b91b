/-! The model's whole numbers near a double. -/
theorem cv_lt {a b : UInt64} {o : CmpOp} (ha : FP.Core.val64 a ≠ .nan) (hb : FP.Core.val64 b ≠ .nan) : Op.cmpValue (FP.dcmp a b) o < 0 ↔ FP.Core.zval FP.Core.b64 (FP.Core.val64 a) < FP.Core.zval FP.Core.b64 (FP.Core.val64 b) := by
  rw [show FP.dcmp a b = FP.Core.dcmp a b from rfl, FP.Core.dcmp_zval ha hb, FP.Core.compare_ite]
  generalize FP.Core.zval FP.Core.b64 (FP.Core.val64 a) = x
  generalize FP.Core.zval FP.Core.b64 (FP.Core.val64 b) = y
  by_cases h1 : x < y
  · rw [if_pos h1]; simp [Op.cmpValue, h1]
  · rw [if_neg h1]
    by_cases h2 : x = y
    · rw [if_pos h2]; simp [Op.cmpValue, h1]
    · rw [if_neg h2]; simp [Op.cmpValue, h1]
theorem cv_gt {a b : UInt64} {o : CmpOp} (ha : FP.Core.val64 a ≠ .nan) (hb : FP.Core.val64 b ≠ .nan) : 0 < Op.cmpValue (FP.dcmp a b) o ↔ FP.Core.zval FP.Core.b64 (FP.Core.val64 b) < FP.Core.zval FP.Core.b64 (FP.Core.val64 a) := by
  rw [show FP.dcmp a b = FP.Core.dcmp a b from rfl, FP.Core.dcmp_zval ha hb, FP.Core.compare_ite]
  generalize FP.Core.zval FP.Core.b64 (FP.Core.val64 a) = x
  generalize FP.Core.zval FP.Core.b64 (FP.Core.val64 b) = y
  by_cases h1 : x < y
  · rw [if_pos h1]; simp [Op.cmpValue]; omega
  · rw [if_neg h1]
    by_cases h2 : x = y
    · rw [if_pos h2]; simp [Op.cmpValue]; omega
    · rw [if_neg h2]; simp [Op.cmpValue]; omega
theorem cv_eq {a b : UInt64} {o : CmpOp} (ha : FP.Core.val64 a ≠ .nan) (hb : FP.Core.val64 b ≠ .nan) : Op.cmpValue (FP.dcmp a b) o = 0 ↔ FP.Core.zval FP.Core.b64 (FP.Core.val64 a) = FP.Core.zval FP.Core.b64 (FP.Core.val64 b) := by
  rw [show FP.dcmp a b = FP.Core.dcmp a b from rfl, FP.Core.dcmp_zval ha hb, FP.Core.compare_ite]
  generalize FP.Core.zval FP.Core.b64 (FP.Core.val64 a) = x
  generalize FP.Core.zval FP.Core.b64 (FP.Core.val64 b) = y
  by_cases h1 : x < y
  · rw [if_pos h1]; simp [Op.cmpValue]; omega
  · rw [if_neg h1]
    by_cases h2 : x = y
    · rw [if_pos h2]; simp [Op.cmpValue, h2]
    · rw [if_neg h2]; simp [Op.cmpValue, h2]
theorem zv_52 : FP.Core.zval FP.Core.b64 (FP.Core.val64 4841369599423283200) = ((4503599627370496 : Nat) : Int) * (FP.Core.one64 : Int) := by decide +kernel
theorem zv_52n : FP.Core.zval FP.Core.b64 (FP.Core.val64 14064741636278059008) = -(((4503599627370496 : Nat) : Int) * (FP.Core.one64 : Int)) := by decide +kernel
theorem zv_half : 2 * FP.Core.zval FP.Core.b64 (FP.Core.val64 4602678819172646912) = (FP.Core.one64 : Int) := by decide +kernel
theorem zv_one : FP.Core.zval FP.Core.b64 (FP.Core.val64 1) = 1 := by decide +kernel
theorem nn_52 : FP.Core.val64 4841369599423283200 ≠ .nan := by decide +kernel
theorem nn_52n : FP.Core.val64 14064741636278059008 ≠ .nan := by decide +kernel
theorem nn_05 : FP.Core.val64 4602678819172646912 ≠ .nan := by decide +kernel
theorem nn_00 : FP.Core.val64 0 ≠ .nan := by decide +kernel
theorem nn_01 : FP.Core.val64 1 ≠ .nan := by decide +kernel
/-- the whole number below a number of sign s and magnitude A (B: one), and what is left above it -/
def flZ (s : Bool) (A B : Nat) : Int := bif s then (if A % B = 0 then -((A / B : Nat) : Int) else -((A / B : Nat) : Int) - 1) else ((A / B : Nat) : Int)
def rsN (s : Bool) (A B : Nat) : Nat := bif s then (if A % B = 0 then 0 else B - A % B) else A % B
theorem fl_rs (s : Bool) {A B : Nat} (hB : 0 < B) : FP.Core.signed s A = flZ s A B * (B : Int) + (rsN s A B : Int) := by
  have h1 : (A : Int) = ((A / B : Nat) : Int) * (B : Int) + ((A % B : Nat) : Int) := by
    have := Nat.div_add_mod A B
    rw [Nat.mul_comm] at this
    exact_mod_cast this.symm
  have h2 := Nat.mod_lt A hB
  unfold flZ rsN FP.Core.signed
  cases s
  · simp only [cond_false, Bool.false_eq_true, if_false]; exact h1
  · simp only [cond_true, if_true]
    by_cases h0 : A % B = 0
    · rw [if_pos h0, if_pos h0, h1, h0, Int.neg_mul]; simp
    · rw [if_neg h0, if_neg h0, h1, Int.sub_mul, Int.neg_mul, Int.one_mul]
      have : ((B - A % B : Nat) : Int) = (B : Int) - ((A % B : Nat) : Int) := by omega
      rw [this]
      generalize ((A / B : Nat) : Int) * (B : Int) = X
      omega
/-- exact differences -/
theorem rest_exact {sg : Bool} {n E K : Nat} {e : Int} (he : FP.Core.b64.qmin ≤ e) (h : FP.Core.inUnits n e FP.Core.b64.qmin = K * 2 ^ E) (hK : K < 2 ^ 53) (hE : E ≤ 1074) : FP.Core.zmag FP.Core.b64 (FP.Core.round FP.Core.b64 (.fin sg n e)) = K * 2 ^ E := by
  have e2 : FP.Core.b64.qmin = -1074 := FP.Core.qmin_b64
  have e4 : FP.Core.b64.qmax = 971 := by decide
  have e6 : (2 : Nat) ^ FP.Core.b64.p = 2 ^ 53 := by decide
  have h1 : FP.Core.round FP.Core.b64 (.fin sg n e) = FP.Core.round FP.Core.b64 (.fin sg K (FP.Core.b64.qmin + E)) := by
    rw [round_units sg he h]
    refine FP.Core.roundRatio_congr (by decide) (by decide) ?_
    rw [show (FP.Core.b64.qmin - (FP.Core.b64.qmin + (E : Int))).toNat = 0 by omega, show (FP.Core.b64.qmin + (E : Int) - FP.Core.b64.qmin).toNat = E by omega]
    simp
  obtain ⟨c', q', g1, g2⟩ := FP.Core.round_exact FP.Core.good_b64 sg (c := K) (q := FP.Core.b64.qmin + E) (by rw [e6]; exact hK) (by omega) (by omega)
  rw [h1, g1]
  show FP.Core.inUnits c' q' FP.Core.b64.qmin = _
  rw [g2]
  unfold FP.Core.inUnits
  rw [show (FP.Core.b64.qmin + (E : Int) - FP.Core.b64.qmin).toNat = E by omega]
theorem rest_form {s : Bool} {c : Nat} {q : Int} (hf : FP.Core.fits FP.Core.b64 (.fin s c q)) (hA : FP.Core.inUnits c q FP.Core.b64.qmin < 4503599627370496 * FP.Core.one64) (hx : s = false ∨ FP.Core.one64 ≤ 2 * FP.Core.inUnits c q FP.Core.b64.qmin ∨ FP.Core.inUnits c q FP.Core.b64.qmin = 0) : ∃ K E, rsN s (FP.Core.inUnits c q FP.Core.b64.qmin) FP.Core.one64 = K * 2 ^ E ∧ K < 2 ^ 53 ∧ E ≤ 1074 := by
  obtain ⟨h1, h2, h3, h4⟩ := hf
  have e6 : (2 : Nat) ^ FP.Core.b64.p = 2 ^ 53 := by decide
  rw [e6] at h1
  unfold FP.Core.inUnits at *
  obtain ⟨E, hE⟩ : ∃ E, (q - FP.Core.b64.qmin).toNat = E := ⟨_, rfl⟩
  rw [hE] at hA hx ⊢
  have hEle : E ≤ 1074 := by
    rcases h4 with h4 | h4
    · omega
    · refine Nat.le_of_not_lt (fun hlt => ?_)
      have p1 : (2 : Nat) ^ 1074 ≤ 2 ^ E := Nat.pow_le_pow_right (by decide) (by omega)
      rw [FP.Core.tails_b64] at h4
      have p2 : 2 ^ 52 * 2 ^ 1074 ≤ c * 2 ^ E := Nat.mul_le_mul h4 p1
      have p3 : 4503599627370496 * FP.Core.one64 = 2 ^ 52 * 2 ^ 1074 := by unfold FP.Core.one64; rw [show 4503599627370496 = 2 ^ 52 by decide]
      rw [p3] at hA
      exact absurd (Nat.lt_of_le_of_lt p2 hA) (Nat.lt_irrefl _)
  obtain ⟨M, hM⟩ : ∃ M, 2 ^ (1074 - E) = M := ⟨_, rfl⟩
  have hone : FP.Core.one64 = M * 2 ^ E := by
    unfold FP.Core.one64
    rw [← hM, ← Nat.pow_add]; congr 1; omega
  have hM0 : 0 < M := by rw [← hM]; exact Nat.two_pow_pos _
  have h2E : 0 < 2 ^ E := Nat.two_pow_pos E
  rw [hone] at hx ⊢
  have hr : c * 2 ^ E % (M * 2 ^ E) = c % M * 2 ^ E := Nat.mul_mod_mul_right _ _ _
  have hcm : c % M ≤ c := Nat.mod_le _ _
  have hcM : c % M < M := Nat.mod_lt _ hM0
  unfold rsN
  rw [hr]
  cases s
  · exact ⟨c % M, E, rfl, by omega, hEle⟩
  · simp only [cond_true]
    by_cases h0 : c % M * 2 ^ E = 0
    · rw [if_pos h0]; exact ⟨0, E, by simp, by decide, hEle⟩
    · rw [if_neg h0]
      refine ⟨M - c % M, E, by rw [Nat.sub_mul], ?_, hEle⟩
      have hcm0 : c % M ≠ 0 := fun h => h0 (by rw [h]; simp)
      have hx2 : M * 2 ^ E ≤ 2 * (c * 2 ^ E) := by
        rcases hx with h | h | h
        · cases h
        · exact h
        · exfalso
          rcases Nat.mul_eq_zero.mp h with h | h
          · rw [h] at hcm0; simp at hcm0
          · omega
      have hx3 : M ≤ 2 * c := Nat.le_of_mul_le_mul_right (by rw [Nat.mul_assoc]; exact hx2) h2E
      have hM54 : M < 2 ^ 54 := by omega
      have hexp : 1074 - E < 54 := by
        rw [← hM] at hM54
        exact (Nat.pow_lt_pow_iff_right (by decide : 1 < 2)).mp hM54
      have hM53 : M ≤ 2 ^ 53 := by rw [← hM]; exact Nat.pow_le_pow_right (by decide) (by omega)
      omega
