/-! Products with a power of 2, and numbers of 32 bits in 64. -/
/-- how many of the least doubles make the least float -/
theorem kk_ex : ∃ K : Nat, 0 < K ∧ ∀ E : Nat, 2 ^ (E + 925) = 2 ^ E * K := ⟨2 ^ 925, Nat.two_pow_pos 925, fun E => Nat.pow_add 2 E 925⟩
noncomputable def kk : Nat := kk_ex.choose
theorem kk_pow (E : Nat) : 2 ^ (E + 925) = 2 ^ E * kk := kk_ex.choose_spec.2 E
theorem kk_pos : 0 < kk := kk_ex.choose_spec.1
def scN (T EI m : Nat) (p : Int) : Nat := if m = 0 then 0 else rdN T EI (8 * sgN T m) ((exN T m : Int) + p)
theorem sc_ok {f : FP.Core.Fmt} (hf : FP.Core.Good f) (hT : 32 * f.tails ≤ 2 ^ 58) (s : Bool) (m : Nat) (p : Int) :
    FP.Core.encode f (FP.Core.roundRatio f s (FP.Core.unitsOf f m) 1 (f.qmin + p)) = cdN f s (scN f.tails (f.exps - 1) m p) := by
  have hT2 := FP.Core.tails_two hf
  unfold scN
  by_cases h0 : m = 0
  · rw [if_pos h0, h0, FP.Core.unitsOf_zero, ← enc_zero hf s]
    unfold FP.Core.roundRatio
    rw [if_pos rfl, if_pos rfl]
  · rw [if_neg h0]
    have hx := exN_pos (T := f.tails) (m := m)
    have hs := sgN_lt (T := f.tails) (m := m) (by omega)
    have hs0 : 0 < sgN f.tails m := Nat.pos_of_ne_zero (fun h => h0 (sgN_zero (by omega) h))
    have h := rdN_ok hf hT s (m := 8 * sgN f.tails m) (P := 8 * sgN f.tails m) (Q := 1) (e := (exN f.tails m : Int) + p) (by decide) (Or.inl (by simp)) (by omega) (by omega) (Or.inl (by simp))
    unfold cdN
    rw [← h]
    congr 1
    rw [un_eq m]
    refine FP.Core.roundRatio_congr (by decide) (by decide) ?_
    rw [show (f.qmin + p - (f.qmin + ((exN f.tails m : Int) + p - 1))).toNat = 0 by omega, show (f.qmin + ((exN f.tails m : Int) + p - 1) - (f.qmin + p)).toNat = exN f.tails m - 1 by omega, Nat.pow_zero]
    simp only [Nat.mul_one]
    ac_rfl
theorem prod_pow {f : FP.Core.Fmt} (s : Bool) {c a U : Nat} {q p : Int} (hq : f.qmin ≤ q) (h : FP.Core.inUnits c q f.qmin = U) : FP.Core.round f (FP.Core.exactProduct (.fin s c q) (.fin false (2 ^ a) (p - a))) = FP.Core.roundRatio f s U 1 (f.qmin + p) := by
  subst h
  show FP.Core.roundRatio f (s != false) (c * 2 ^ a) 1 (q + (p - a)) = _
  rw [show (s != false) = s by cases s <;> rfl]
  have h1 : FP.Core.roundRatio f s (c * 2 ^ a) 1 (q + (p - a)) = FP.Core.roundRatio f s c 1 (q + p) := by
    refine FP.Core.roundRatio_congr (by decide) (by decide) ?_
    rw [show (q + (p - (a : Int)) - (q + p)).toNat = 0 by omega, show (q + p - (q + (p - (a : Int)))).toNat = a by omega]
    simp
  rw [h1]
  refine FP.Core.roundRatio_congr (by decide) (by decide) ?_
  unfold FP.Core.inUnits
  rw [show (f.qmin + p - (q + p)).toNat = 0 by omega, show (q + p - (f.qmin + p)).toNat = (q - f.qmin).toNat by omega]
  simp
theorem mul_code {f : FP.Core.Fmt} (hf : FP.Core.Good f) (hT : 32 * f.tails ≤ 2 ^ 58) {s : Bool} {m y a : Nat} {p : Int} (hm : m < FP.Core.infBits f) (hy : FP.Core.decode f y = .fin false (2 ^ a) (p - a)) :
    FP.Core.mul f (cdN f s m) y = cdN f s (scN f.tails (f.exps - 1) m p) := by
  obtain ⟨c, q, h1, h2, h3⟩ := dec_fin hf s hm
  unfold FP.Core.mul
  rw [h1, hy, prod_pow s h2.2.1 h3]
  exact sc_ok hf hT s m p
theorem mul_inf {f : FP.Core.Fmt} {s : Bool} {y a : Nat} {r : Int} (hy : FP.Core.decode f y = .fin false (2 ^ a) r) : FP.Core.mul f (cdN f s (FP.Core.infBits f)) y = cdN f s (FP.Core.infBits f) := by
  unfold FP.Core.mul
  rw [dec_inf, hy]
  have : FP.Core.exactProduct (.inf s) (.fin false (2 ^ a) r) = .inf s := by
    show (if 2 ^ a = 0 then FP.Core.Datum.nan else .inf (s != false)) = .inf s
    rw [if_neg (by have := Nat.two_pow_pos a; omega)]
    cases s <;> rfl
  rw [this]
  show FP.Core.assemble f s (f.exps - 1) 0 = _
  unfold FP.Core.assemble cdN FP.Core.half FP.Core.infBits
  rw [Nat.add_mul, Nat.mul_assoc]
  rfl
theorem enc_inf {f : FP.Core.Fmt} {s : Bool} : FP.Core.encode f (.inf s) = cdN f s (FP.Core.infBits f) := by
  show FP.Core.assemble f s (f.exps - 1) 0 = _
  unfold FP.Core.assemble cdN FP.Core.half FP.Core.infBits
  rw [Nat.add_mul, Nat.mul_assoc]
  rfl
theorem enc_dec {f : FP.Core.Fmt} (hf : FP.Core.Good f) {s : Bool} {m : Nat} (hm : m ≤ FP.Core.infBits f) : FP.Core.encode f (FP.Core.decode f (cdN f s m)) = cdN f s m := by
  have h := FP.Core.infBits_lt f
  refine FP.Core.encode_decode hf _ ?_ ?_
  · have := cdN_lt (f := f) (s := s) (m := m) (by omega)
    unfold FP.Core.half at this
    rw [Nat.mul_assoc]; exact this
  · intro h1
    have := (FP.Core.decode_nan _).mp h1
    rw [cdN_mag (by omega)] at this
    omega
/-- a datum of double precision with the value of the 32 bits' magnitude m times 2 ^ p -/
theorem widen_ok {s : Bool} {c : Nat} {q : Int} (h : FP.Core.fits FP.Core.b32 (.fin s c q)) : ∃ c' q', FP.Core.round FP.Core.b64 (.fin s c q) = .fin s c' q' ∧ FP.Core.fits FP.Core.b64 (.fin s c' q') ∧ FP.Core.inUnits c' q' FP.Core.b64.qmin = FP.Core.inUnits c q FP.Core.b32.qmin * kk := by
  obtain ⟨h1, h2, h3, -⟩ := h
  have e1 : FP.Core.b32.qmin = -149 := FP.Core.qmin_b32
  have e2 : FP.Core.b64.qmin = -1074 := FP.Core.qmin_b64
  have e3 : FP.Core.b32.qmax = 104 := by decide
  have e4 : FP.Core.b64.qmax = 971 := by decide
  have e5 : (2 : Nat) ^ FP.Core.b32.p = 16777216 := by decide
  have e6 : (2 : Nat) ^ FP.Core.b64.p = 9007199254740992 := by decide
  obtain ⟨c', q', g1, g2⟩ := FP.Core.round_exact FP.Core.good_b64 s (c := c) (q := q) (by rw [e6]; rw [e5] at h1; omega) (by omega) (by omega)
  refine ⟨c', q', g1, g1 ▸ FP.Core.round_fits FP.Core.good_b64 _, ?_⟩
  rw [g2]
  unfold FP.Core.inUnits
  rw [e1, e2, Nat.mul_assoc, ← kk_pow]
  congr 2
  omega
/-- back from 64 bits, where nothing is lost on the way: Z units of 32 bits -/
theorem narrow_ok {s : Bool} {c Z : Nat} {q : Int} (hq : FP.Core.b64.qmin ≤ q) (h : FP.Core.inUnits c q FP.Core.b64.qmin = Z * kk) : FP.Core.round FP.Core.b32 (.fin s c q) = FP.Core.roundRatio FP.Core.b32 s Z 1 FP.Core.b32.qmin := by
  have e1 : FP.Core.b32.qmin = -149 := FP.Core.qmin_b32
  have e2 : FP.Core.b64.qmin = -1074 := FP.Core.qmin_b64
  show FP.Core.roundRatio FP.Core.b32 s c 1 q = _
  have h1 : FP.Core.roundRatio FP.Core.b32 s c 1 q = FP.Core.roundRatio FP.Core.b32 s (Z * kk) 1 FP.Core.b64.qmin := by
    refine FP.Core.roundRatio_congr (by decide) (by decide) ?_
    rw [← h]
    unfold FP.Core.inUnits
    rw [show (FP.Core.b64.qmin - q).toNat = 0 by omega]
    simp
  rw [h1]
  refine FP.Core.roundRatio_congr (by decide) (by decide) ?_
  rw [e1, e2, show ((-1074 : Int) - -149).toNat = 0 by decide, show ((-149 : Int) - -1074).toNat = 0 + 925 by decide, kk_pow]
  simp
