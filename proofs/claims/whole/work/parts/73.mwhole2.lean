def upN (A B : Nat) : Nat := if A % B = 0 then A / B else A / B + 1
/-- the magnitude of the whole number asked for: how 1: above, 0: the nearest, else below -/
def GG (s : Bool) (k : Int32) (A B : Nat) : Nat := if k = 1 then (bif s then A / B else upN A B) else if k = 0 then FP.Core.nearest A B else (bif s then upN A B else A / B)
/-- whether one is added to the whole number below -/
def upB (k : Int32) (f : Int) (r B : Nat) : Prop := if k = 1 then 0 < r else if k = 0 then (B < 2 * r ∨ (2 * r = B ∧ f % 2 = 1)) else False
theorem gg_ok (s : Bool) (k : Int32) {A B : Nat} (hB : 0 < B) (w : Int) (hw : (upB k (flZ s A B) (rsN s A B) B → w = flZ s A B + 1) ∧ (¬ upB k (flZ s A B) (rsN s A B) B → w = flZ s A B)) : w = FP.Core.signed s (GG s k A B) := by
  have hr := Nat.mod_lt A hB
  unfold upB GG flZ rsN upN FP.Core.signed at *
  by_cases k1 : k = 1
  · simp only [if_pos k1] at *
    cases s
    · simp only [cond_false, Bool.false_eq_true, if_false] at *
      by_cases h0 : A % B = 0
      · rw [if_pos h0]; exact hw.2 (by omega)
      · rw [if_neg h0]; rw [hw.1 (by omega)]; omega
    · simp only [cond_true, if_true] at *
      by_cases h0 : A % B = 0
      · simp only [if_pos h0] at hw
        rw [hw.2 (by omega)]
      · simp only [if_neg h0] at hw
        rw [hw.1 (by omega)]; omega
  · simp only [if_neg k1] at *
    by_cases k0 : k = 0
    · simp only [if_pos k0] at *
      unfold FP.Core.nearest
      cases s
      · simp only [cond_false, Bool.false_eq_true, if_false] at *
        by_cases h1 : 2 * (A % B) < B
        · rw [if_pos h1]; exact hw.2 (by omega)
        · rw [if_neg h1]
          by_cases h2 : B < 2 * (A % B)
          · rw [if_pos h2, hw.1 (Or.inl h2)]; omega
          · rw [if_neg h2]
            by_cases h3 : A / B % 2 = 1
            · rw [hw.1 (Or.inr ⟨by omega, by omega⟩)]; omega
            · rw [hw.2 (by omega)]; omega
      · simp only [cond_true, if_true] at *
        by_cases h0 : A % B = 0
        · simp only [if_pos h0] at hw
          rw [if_pos (by omega), hw.2 (by omega)]
        · simp only [if_neg h0] at hw
          by_cases h1 : 2 * (A % B) < B
          · rw [if_pos h1, hw.1 (Or.inl (by omega))]; omega
          · rw [if_neg h1]
            by_cases h2 : B < 2 * (A % B)
            · rw [if_pos h2, hw.2 (by omega)]; omega
            · rw [if_neg h2]
              by_cases h3 : A / B % 2 = 1
              · rw [hw.2 (by omega)]; omega
              · rw [hw.1 (Or.inr ⟨by omega, by omega⟩)]; omega
    · simp only [if_neg k0] at *
      cases s
      · simp only [cond_false, Bool.false_eq_true, if_false] at *
        exact hw.2 (fun h => h)
      · simp only [cond_true, if_true] at *
        rw [hw.2 (fun h => h)]
        by_cases h0 : A % B = 0
        · rw [if_pos h0, if_pos h0]
        · rw [if_neg h0, if_neg h0]; omega
theorem l2d_fin' {a : Int64} (h : a.toInt.natAbs ≤ 2 ^ 53) : ∃ c q, FP.Core.val64 (FP.Core.l2d a) = .fin (decide (a.toInt < 0)) c q ∧ FP.Core.fits FP.Core.b64 (.fin (decide (a.toInt < 0)) c q) ∧ FP.Core.signed (decide (a.toInt < 0)) (FP.Core.inUnits c q FP.Core.b64.qmin) = a.toInt * (FP.Core.one64 : Int) := by
  obtain ⟨c, q, h1⟩ := FP.Core.l2d_shape a
  have h2 := FP.Core.DInt_zval (FP.Core.l2d_int h)
  have h3 := FP.Core.val64_fits (FP.Core.l2d a)
  rw [h1] at h2 h3
  exact ⟨c, q, h1, h3, h2⟩
theorem neg64 (x : UInt64) : x.toInt64 < (0 : Int64) ↔ 2 ^ 63 ≤ x.toNat := by
  rw [Int64.lt_iff_toInt_lt]
  show x.toBitVec.toInt < 0 ↔ _
  rw [BitVec.toInt_eq_toNat_cond]
  show (if 2 * x.toNat < 2 ^ 64 then (x.toNat : Int) else (x.toNat : Int) - ((2 ^ 64 : Nat) : Int)) < 0 ↔ _
  have := x.toNat_lt
  split <;> omega
theorem odd64 (x : Int64) : (x &&& (1 : Int64)) = 1 ↔ x.toInt % 2 = 1 := by
  have hx : x = lN x.toBitVec.toNat := nb_ext (by rw [nb_bv]; simp)
  have hlt : x.toBitVec.toNat < 2 ^ 64 := x.toBitVec.isLt
  have h1 : (x &&& (1 : Int64)) = lN (x.toBitVec.toNat % 2) := by
    have := nb_mask x.toBitVec.toNat 1
    rw [← hx] at this
    exact this
  have h2 : x.toInt % 2 = ((x.toBitVec.toNat % 2 : Nat) : Int) := by
    show x.toBitVec.toInt % 2 = _
    rw [BitVec.toInt_eq_toNat_cond]
    split <;> omega
  rw [h1, h2, show (1 : Int64) = lN 1 from rfl, nb_inj (by omega) (by decide)]
  omega
set_option maxHeartbeats 4000000 in
theorem whole_ok {x : UInt64} {s : Bool} {c A : Nat} {q : Int} (hv : FP.Core.val64 x = .fin s c q) (hA' : FP.Core.inUnits c q FP.Core.b64.qmin = A) (hA : A < 4503599627370496 * FP.Core.one64) (k : Int32) : ∃ c' q', FP.Core.val64 (sX5_whole x k) = .fin s c' q' ∧ FP.Core.inUnits c' q' FP.Core.b64.qmin = GG s k A FP.Core.one64 * FP.Core.one64 := by
  have hB := FP.Core.one64_pos
  have hfit : FP.Core.fits FP.Core.b64 (.fin s c q) := hv ▸ FP.Core.val64_fits x
  have hnx : FP.Core.val64 x ≠ .nan := by rw [hv]; intro h; cases h
  have hzv : FP.Core.zval FP.Core.b64 (FP.Core.val64 x) = FP.Core.signed s A := by rw [hv, ← hA']; rfl
  have hzm : FP.Core.zmag FP.Core.b64 (FP.Core.val64 x) = A := by rw [hv, ← hA']; rfl
  have hsg : FP.Core.sgn (FP.Core.val64 x) = s := by rw [hv]; rfl
  have hrf : (s = false ∨ FP.Core.one64 ≤ 2 * A ∨ A = 0) → ∃ K E, rsN s A FP.Core.one64 = K * 2 ^ E ∧ K < 2 ^ 53 ∧ E ≤ 1074 := fun h => by
    have := rest_form hfit (by rw [hA']; exact hA) (by rw [hA']; exact h)
    rw [hA'] at this; exact this
  have hfr := fl_rs s (A := A) hB
  have hg52 : A / FP.Core.one64 < 4503599627370496 := by rw [Nat.div_lt_iff_lt_mul hB]; exact hA
  have hrm := Nat.mod_lt A hB
  have hdm := Nat.div_add_mod A FP.Core.one64
  have z52 := zv_52
  have z52n := zv_52n
  have zh := zv_half
  have z0 := FP.Core.zval64_zero
  have z1 := zv_one
  have hdl := FP.Core.d2l_val hnx
  rw [hzm, hsg] at hdl
  have hl2d : ∀ a : Int64, a.toInt.natAbs ≤ 2 ^ 53 → ∃ c q, FP.Core.val64 (FP.Core.l2d a) = .fin (decide (a.toInt < 0)) c q ∧ FP.Core.fits FP.Core.b64 (.fin (decide (a.toInt < 0)) c q) ∧ FP.Core.signed (decide (a.toInt < 0)) (FP.Core.inUnits c q FP.Core.b64.qmin) = a.toInt * (FP.Core.one64 : Int) := fun a h => l2d_fin' h
  generalize FP.Core.one64 = B at *
  -- the range
  have hin1 : Op.cmpValue (FP.dcmp x (4841369599423283200 : UInt64)) CmpOp.l < 0 := by
    rw [cv_lt hnx nn_52, hzv, z52]
    have : ((4503599627370496 : Nat) : Int) * (B : Int) = ((4503599627370496 * B : Nat) : Int) := by rw [Int.natCast_mul]
    rw [this]
    unfold FP.Core.signed
    split <;> omega
  have hin2 : 0 < Op.cmpValue (FP.dcmp x (14064741636278059008 : UInt64)) CmpOp.g := by
    rw [cv_gt hnx nn_52n, hzv, z52n]
    have : ((4503599627370496 : Nat) : Int) * (B : Int) = ((4503599627370496 * B : Nat) : Int) := by rw [Int.natCast_mul]
    rw [this]
    unfold FP.Core.signed
    split <;> omega
  -- toward zero
  have ht : (FP.d2l x).toInt = FP.Core.signed s (A / B) := by
    show (FP.Core.d2l x).toInt = _
    rw [hdl]
    generalize A / B = gq at *
    unfold FP.Core.signed
    split <;> omega
  -- the whole number below
  have hfl : (sX5_whole_j1 x k).toInt = flZ s A B := by
    unfold sX5_whole_j1
    obtain ⟨ct, qt, t1, t2, t3⟩ := hl2d (FP.d2l x) (by rw [ht, FP.Core.natAbs_signed]; generalize A / B = gq at *; omega)
    have hnt : FP.Core.val64 (FP.l2d (FP.d2l x)) ≠ .nan := by
      show FP.Core.val64 (FP.Core.l2d (FP.d2l x)) ≠ .nan
      rw [t1]; intro h; cases h
    have hzt : FP.Core.zval FP.Core.b64 (FP.Core.val64 (FP.l2d (FP.d2l x))) = FP.Core.signed s (A / B) * (B : Int) := by
      rw [← ht, ← t3]
      show FP.Core.zval FP.Core.b64 (FP.Core.val64 (FP.Core.l2d (FP.d2l x))) = _
      rw [t1]; rfl
    have hc : 0 < Op.cmpValue (FP.dcmp (FP.l2d (FP.d2l x)) x) CmpOp.l ↔ (s = true ∧ A % B ≠ 0) := by
      rw [cv_gt hnt hnx, hzv, hzt]
      have h1 : (A : Int) = ((A / B : Nat) : Int) * (B : Int) + ((A % B : Nat) : Int) := by
        rw [Nat.mul_comm] at hdm
        exact_mod_cast hdm.symm
      unfold FP.Core.signed
      cases s
      · simp only [Bool.false_eq_true, if_false, false_and, iff_false]
        rw [h1]
        generalize ((A / B : Nat) : Int) * (B : Int) = X
        omega
      · simp only [if_true, true_and, Int.neg_mul]
        rw [h1]
        generalize ((A / B : Nat) : Int) * (B : Int) = X
        omega
    unfold flZ
    cases s
    · rw [if_neg (fun h => Bool.noConfusion (hc.mp h).1), ht]; rfl
    · by_cases h0 : A % B = 0
      · rw [if_neg (fun h => (hc.mp h).2 h0), ht]
        simp only [cond_true, if_pos h0]; rfl
      · rw [if_pos (hc.mpr ⟨rfl, h0⟩)]
        simp only [cond_true, if_neg h0]
        have ht' : (FP.d2l x).toInt = -((A / B : Nat) : Int) := ht
        rw [Int64.toInt_sub, ht', show (1 : Int64).toInt = 1 from rfl, Int.bmod_def]
        generalize A / B = gq at *
        omega
  have hflb : -4503599627370496 ≤ flZ s A B ∧ flZ s A B < 4503599627370496 := by
    unfold flZ
    generalize A / B = gq at *
    cases s
    · simp only [cond_false]; omega
    · simp only [cond_true]; split <;> omega
  -- what is left
  obtain ⟨cf, qf, f1, f2, f3⟩ := hl2d (sX5_whole_j1 x k) (by rw [hfl]; omega)
  rw [hfl] at f1 f2 f3
  have hval : FP.Core.val64 (sX5_whole_e2 x k) = FP.Core.round FP.Core.b64 (FP.Core.exactSum (.fin s c q) (.fin (!decide (flZ s A B < 0)) cf qf)) := by
    unfold sX5_whole_e2
    show FP.Core.val64 (FP.Core.dsub x (FP.Core.l2d (sX5_whole_j1 x k))) = _
    rw [FP.Core.val64_dsub, hv, f1]; rfl
  have hfity : FP.Core.fits FP.Core.b64 (.fin (!decide (flZ s A B < 0)) cf qf) := f2
  have hsum : FP.Core.signed s A + FP.Core.signed (!decide (flZ s A B < 0)) (FP.Core.inUnits cf qf FP.Core.b64.qmin) = (rsN s A B : Int) := by
    rw [FP.Core.signed_not, f3, hfr]; omega
  obtain ⟨n, e, e1, e2, e3⟩ := sum_full hfit hfity
  rw [hA', hsum] at e1 e3
  have e3' : FP.Core.inUnits n e FP.Core.b64.qmin = rsN s A B := by rw [e3]; omega
  have hnr : FP.Core.val64 (sX5_whole_e2 x k) ≠ .nan := by rw [hval, e1]; exact FP.Core.roundRatio_ne_nan _ _ _ _ _
  have P1 : ∀ V : UInt64, FP.Core.val64 V ≠ .nan → FP.Core.zval FP.Core.b64 (FP.Core.val64 V) ≤ (rsN s A B : Int) → FP.Core.zval FP.Core.b64 (FP.Core.val64 V) ≤ FP.Core.zval FP.Core.b64 (FP.Core.val64 (sX5_whole_e2 x k)) := fun V hV h => by
    rw [hval]
    refine FP.Core.sum_ge FP.Core.good_b64 ⟨_, _, _, rfl⟩ ⟨_, _, _, rfl⟩ hfit hfity (FP.Core.val64_fits V) hV ?_
    show _ ≤ FP.Core.signed s (FP.Core.inUnits c q FP.Core.b64.qmin) + FP.Core.signed (!decide (flZ s A B < 0)) (FP.Core.inUnits cf qf FP.Core.b64.qmin)
    rw [hA', hsum]; exact h
  have P2 : ∀ V : UInt64, FP.Core.val64 V ≠ .nan → (rsN s A B : Int) ≤ FP.Core.zval FP.Core.b64 (FP.Core.val64 V) → FP.Core.zval FP.Core.b64 (FP.Core.val64 (sX5_whole_e2 x k)) ≤ FP.Core.zval FP.Core.b64 (FP.Core.val64 V) := fun V hV h => by
    rw [hval]
    refine FP.Core.sum_le FP.Core.good_b64 ⟨_, _, _, rfl⟩ ⟨_, _, _, rfl⟩ hfit hfity (FP.Core.val64_fits V) hV ?_
    show FP.Core.signed s (FP.Core.inUnits c q FP.Core.b64.qmin) + FP.Core.signed (!decide (flZ s A B < 0)) (FP.Core.inUnits cf qf FP.Core.b64.qmin) ≤ _
    rw [hA', hsum]; exact h
  have P3 : (s = false ∨ B ≤ 2 * A ∨ A = 0) → FP.Core.zval FP.Core.b64 (FP.Core.val64 (sX5_whole_e2 x k)) = (rsN s A B : Int) := fun h => by
    obtain ⟨K, E, k1, k2, k3⟩ := hrf h
    have hm := rest_exact (sg := FP.Core.sumSign s (!decide (flZ s A B < 0)) (rsN s A B : Int)) e2 (e3'.trans k1) k2 k3
    rw [hval, e1]
    unfold FP.Core.zval
    rw [hm, ← k1]
    have hs : FP.Core.sgn (FP.Core.round FP.Core.b64 (.fin (FP.Core.sumSign s (!decide (flZ s A B < 0)) (rsN s A B : Int)) n e)) = FP.Core.sumSign s (!decide (flZ s A B < 0)) (rsN s A B : Int) := FP.Core.sgn_roundRatio _ _ _ _ _
    rw [hs]
    rcases Nat.eq_zero_or_pos (rsN s A B) with h0 | h0
    · rw [h0]; exact FP.Core.signed_zero _
    · unfold FP.Core.sumSign
      rw [if_neg (by omega)]
      have : decide (((rsN s A B : Nat) : Int) < 0) = false := by simp
      rw [this]; rfl
  generalize hR : FP.Core.zval FP.Core.b64 (FP.Core.val64 (sX5_whole_e2 x k)) = R at *
  have hrsB : rsN s A B < B ∨ rsN s A B = 0 := by
    unfold rsN
    cases s
    · simp only [cond_false]; omega
    · simp only [cond_true]; split <;> omega
  -- whether one is added
  have hup : sX5_whole_j3 x k = 0 ↔ ¬ upB k (flZ s A B) (rsN s A B) B := by
    unfold sX5_whole_j3 upB
    have c0 : 0 < Op.cmpValue (FP.dcmp (sX5_whole_e2 x k) FP.dconst0) CmpOp.l ↔ 0 < R := by
      rw [show FP.dconst0 = (0 : UInt64) from rfl, cv_gt hnr nn_00, hR, z0]
    have ch : 0 < Op.cmpValue (FP.dcmp (sX5_whole_e2 x k) (4602678819172646912 : UInt64)) CmpOp.l ↔ (B : Int) < 2 * R := by
      rw [cv_gt hnr nn_05, hR]; omega
    have ce : Op.cmpValue (FP.dcmp (sX5_whole_e2 x k) (4602678819172646912 : UInt64)) CmpOp.l = 0 ↔ 2 * R = (B : Int) := by
      rw [cv_eq hnr nn_05, hR]; omega
    have q0 := P2 0 nn_00
    have q1 := P1 1 nn_01
    have qh1 := P1 4602678819172646912 nn_05
    have qh2 := P2 4602678819172646912 nn_05
    rw [z0] at q0
    rw [z1] at q1
    by_cases k1 : k = 1
    · rw [if_pos k1, if_pos k1]
      by_cases h0 : 0 < R
      · rw [if_pos (c0.mpr h0)]
        have : 0 < rsN s A B := by
          refine Nat.pos_of_ne_zero (fun h => ?_)
          have := q0 (by omega)
          omega
        simp [this]
      · rw [if_neg (fun h => h0 (c0.mp h))]
        have : ¬ 0 < rsN s A B := fun h => by
          have := q1 (by omega)
          omega
        simp [this]
    · rw [if_neg k1, if_neg k1]
      by_cases k0 : k = 0
      · rw [if_pos k0, if_pos k0]
        have hodd : ((sX5_whole_j1 x k) &&& (1 : Int64)) = 1 ↔ flZ s A B % 2 = 1 := by
          rw [← hfl]
          exact odd64 _
        -- where nothing is lost, or the whole number below is -1
        have hcase : R = (rsN s A B : Int) ∨ (flZ s A B % 2 = 1 ∧ B < 2 * rsN s A B) := by
          by_cases h : s = false ∨ B ≤ 2 * A ∨ A = 0
          · exact Or.inl (P3 h)
          · right
            have hs : s = true := by cases s; simp at h; rfl
            have hlt : A < B := by omega
            have hA0 : A ≠ 0 := fun q => h (Or.inr (Or.inr q))
            subst hs
            unfold flZ rsN
            simp only [cond_true]
            rw [Nat.mod_eq_of_lt hlt, Nat.div_eq_of_lt hlt, if_neg hA0, if_neg hA0]
            constructor
            · decide
            · omega
        by_cases h1 : (B : Int) < 2 * R
        · rw [if_pos (ch.mpr h1)]
          have : B < 2 * rsN s A B := by
            rcases hcase with h | h
            · omega
            · exact h.2
          simp [this]
        · rw [if_neg (fun h => h1 (ch.mp h))]
          by_cases h2 : 2 * R = (B : Int)
          · rw [if_pos (ce.mpr h2)]
            by_cases h3 : flZ s A B % 2 = 1
            · rw [if_pos (hodd.mpr h3)]
              have : B < 2 * rsN s A B ∨ (2 * rsN s A B = B ∧ flZ s A B % 2 = 1) := by
                rcases hcase with h | h
                · right; exact ⟨by omega, h3⟩
                · left; exact h.2
              constructor
              · intro h; exact absurd h (by decide)
              · intro h; exact absurd this h
            · rw [if_neg (fun h => h3 (hodd.mp h))]
              have hn : ¬ (B < 2 * rsN s A B ∨ (2 * rsN s A B = B ∧ flZ s A B % 2 = 1)) := by
                intro h
                rcases h with h | h
                · rcases hcase with g | g
                  · omega
                  · exact h3 g.1
                · exact h3 h.2
              exact ⟨fun _ => hn, fun _ => rfl⟩
          · rw [if_neg (fun h => h2 (ce.mp h))]
            have hn : ¬ (B < 2 * rsN s A B ∨ (2 * rsN s A B = B ∧ flZ s A B % 2 = 1)) := by
              intro h
              rcases h with h | h
              · have := qh1 (by omega)
                omega
              · have a1 := qh1 (by omega)
                have a2 := qh2 (by omega)
                omega
            exact ⟨fun _ => hn, fun _ => rfl⟩
      · rw [if_neg k0, if_neg k0]; simp
  -- the whole number
  have hj4 : (sX5_whole_j4 x k).toInt = FP.Core.signed s (GG s k A B) := by
    refine gg_ok s k hB _ ⟨fun h => ?_, fun h => ?_⟩
    · unfold sX5_whole_j4
      rw [if_neg (fun q => (hup.mp q) h), Int64.toInt_add, hfl, show (1 : Int64).toInt = 1 from rfl, Int.bmod_def]
      omega
    · unfold sX5_whole_j4
      rw [if_pos (hup.mpr h), hfl]
  have hGb : GG s k A B ≤ 4503599627370497 := by
    unfold GG upN FP.Core.nearest
    generalize A / B = gq at *
    cases s <;> simp only [cond_true, cond_false] <;> (repeat' split) <;> omega
  have hj5 : sX5_whole_j5 x k = 0 ↔ s = false := by
    unfold sX5_whole_j5
    have c1 : Op.cmpValue (FP.dcmp x FP.dconst0) CmpOp.g < 0 ↔ FP.Core.signed s A < 0 := by
      rw [show FP.dconst0 = (0 : UInt64) from rfl, cv_lt hnx nn_00, hzv, z0]
    have c2 : Op.cmpValue (FP.dcmp x FP.dconst0) CmpOp.l = 0 ↔ FP.Core.signed s A = 0 := by
      rw [show FP.dconst0 = (0 : UInt64) from rfl, cv_eq hnx nn_00, hzv, z0]
    have hbit : x.toInt64 < (0 : Int64) ↔ s = true := by
      have h1 := FP.Core.sgn_bits hnx
      rw [hsg] at h1
      rw [h1, decide_eq_true_eq]
      exact neg64 x
    rw [lb64 (nn_val hnx)]
    by_cases h1 : FP.Core.signed s A < 0
    · rw [if_pos (c1.mpr h1)]
      have : s = true := by
        cases s
        · unfold FP.Core.signed at h1; simp at h1; omega
        · rfl
      rw [this]; decide
    · rw [if_neg (fun h => h1 (c1.mp h))]
      by_cases h2 : FP.Core.signed s A = 0
      · rw [if_pos (c2.mpr h2)]
        by_cases h3 : x.toInt64 < (0 : Int64)
        · rw [if_pos h3, hbit.mp h3]; decide
        · rw [if_neg h3]
          cases s
          · simp
          · exact absurd (hbit.mpr rfl) h3
      · rw [if_neg (fun h => h2 (c2.mp h))]
        cases s
        · simp
        · exfalso
          unfold FP.Core.signed at h1 h2
          simp at h1 h2
          omega
  unfold sX5_whole
  rw [if_pos hin1, if_pos hin2]
  have hz : sX5_whole_j4 x k = 0 ↔ GG s k A B = 0 := by
    constructor
    · intro h
      rw [h] at hj4
      exact (FP.Core.signed_eq_zero s _).mp hj4.symm
    · intro h
      apply Int64.toInt_inj.mp
      rw [hj4, h]; exact FP.Core.signed_zero s
  obtain ⟨cw, qw, w1, w2, w3⟩ := hl2d (sX5_whole_j4 x k) (by rw [hj4, FP.Core.natAbs_signed]; omega)
  rw [hj4] at w1 w3
  by_cases h0 : GG s k A B = 0
  · rw [if_pos (hz.mpr h0), h0, Nat.zero_mul]
    by_cases hs : s = false
    · subst hs
      rw [if_pos (hj5.mpr rfl)]
      rw [h0] at w1 w3
      refine ⟨cw, qw, w1, ?_⟩
      have : FP.Core.signed false 0 = 0 := rfl
      rw [this] at w3
      simp [FP.Core.signed] at w3
      exact w3
    · rw [if_neg (fun h => hs (hj5.mp h))]
      have hst : s = true := by cases s; exact absurd rfl hs; rfl
      subst hst
      exact ⟨0, FP.Core.b64.qmin, FP.Core.val64_dzeroNeg, by unfold FP.Core.inUnits; simp⟩
  · rw [if_neg (fun h => h0 (hz.mp h))]
    have hsd : decide (FP.Core.signed s (GG s k A B) < 0) = s := FP.Core.signed_lt_zero s (by omega)
    rw [hsd] at w1 w3
    refine ⟨cw, qw, w1, ?_⟩
    rw [← FP.Core.signed_mul] at w3
    have := congrArg Int.natAbs w3
    rw [FP.Core.natAbs_signed, FP.Core.natAbs_signed] at this
    exact this
