/-! Sums of floats, made in doubles: rounding twice does no harm. -/
theorem near_big {f : FP.Core.Fmt} (hf : FP.Core.Good f) {s : Bool} {l P Q : Nat} (hl : l ≤ FP.Core.infBits f) (hx : 2 ≤ exN f.tails l) (hQ : 0 < Q) (h1 : 32 * sgN f.tails l * (Q * 2 ^ (exN f.tails l - 1)) ≤ 32 * P + Q * 2 ^ (exN f.tails l - 1)) (h2 : 32 * P ≤ 32 * sgN f.tails l * (Q * 2 ^ (exN f.tails l - 1)) + Q * 2 ^ (exN f.tails l - 1)) : FP.Core.encode f (FP.Core.roundRatio f s P Q f.qmin) = cdN f s l := by
  have hT2 := FP.Core.tails_two hf
  have hg := sgN_ge hx
  have hlt : sgN f.tails l < 2 * f.tails := sgN_lt (by omega)
  have hcode : (exN f.tails l - 1) * f.tails + sgN f.tails l = l := by
    have h3 : ¬ l < f.tails := by
      intro h
      unfold exN at hx
      rw [Nat.div_eq_of_lt h] at hx
      omega
    have h4 : exN f.tails l = l / f.tails := by unfold exN at hx ⊢; omega
    have h5 := Nat.div_add_mod l f.tails
    rw [h4]
    unfold sgN
    rw [if_neg h3]
    have h6 : 1 ≤ l / f.tails := by omega
    have h7 : (l / f.tails - 1) * f.tails + f.tails = f.tails * (l / f.tails) := by
      rw [← Nat.succ_mul, Nat.mul_comm]; congr 1; omega
    omega
  generalize hx' : exN f.tails l = x at *
  generalize sgN f.tails l = g at *
  obtain ⟨y, rfl⟩ : ∃ y, x = y + 2 := ⟨x - 2, by omega⟩
  rw [show y + 2 - 1 = y + 1 by omega] at h1 h2 hcode
  have hN' : 0 < Q * 2 ^ y := Nat.mul_pos hQ (Nat.two_pow_pos y)
  have hNN : Q * 2 ^ (y + 1) = 2 * (Q * 2 ^ y) := by rw [Nat.pow_succ]; ac_rfl
  by_cases hc : g * (Q * 2 ^ (y + 1)) ≤ P ∨ f.tails < g
  · generalize hN : Q * 2 ^ (y + 1) = N at *
    have hN0 : 0 < N := by omega
    have q1 : 32 * g * N = 32 * (g * N) := Nat.mul_assoc ..
    have q2 : 2 * f.tails * N = 2 * (f.tails * N) := Nat.mul_assoc ..
    have q3 : (g + 1) * N = g * N + N := Nat.succ_mul g N
    have q4 : (g + 1) * N ≤ 2 * f.tails * N := Nat.mul_le_mul_right N (by omega)
    have q5 : f.tails * N ≤ P := by
      rcases hc with h | h
      · exact Nat.le_trans (Nat.mul_le_mul_right N hg) h
      · have q6 : (f.tails + 1) * N ≤ g * N := Nat.mul_le_mul_right N h
        rw [Nat.succ_mul] at q6
        omega
    rw [kl1 hf s (j := y + 1) hQ (by rw [hN]; omega) (Or.inr (by rw [hN]; exact q5)), hN]
    have hn : FP.Core.nearest P N = g := by
      by_cases hp : g * N ≤ P
      · refine near_lo hp ?_
        rw [Nat.add_mul, Nat.mul_assoc, Nat.one_mul]; omega
      · have hg1 : g - 1 + 1 = g := by omega
        have := near_hi (A := P) (B := N) (a := g - 1) (by
          have : (2 * (g - 1) + 1) * N + N = 2 * (g * N) := by rw [← Nat.succ_mul, ← Nat.mul_assoc]; congr 1; omega
          omega) (by rw [hg1]; omega)
        rw [this, hg1]
    rw [hn, hcode, Nat.min_eq_left hl]
    rfl
  · have hgT : g = f.tails := by omega
    have hP : P < g * (Q * 2 ^ (y + 1)) := by omega
    rw [hNN] at hP h1
    generalize hN : Q * 2 ^ y = N at *
    subst hgT
    generalize hT : f.tails = T at *
    have q1 : 32 * T * (2 * N) = 64 * (T * N) := by rw [show 64 = 32 * 2 from rfl]; ac_rfl
    have q2 : T * (2 * N) = 2 * (T * N) := by ac_rfl
    have q3 : 2 * T * N = 2 * (T * N) := Nat.mul_assoc ..
    have q4 : 2 * N ≤ T * N := Nat.mul_le_mul_right N hT2
    have hkl := kl1 hf s (P := P) (j := y) hQ (by rw [hN, hT]; omega) (Or.inr (by rw [hN, hT]; omega))
    rw [hkl, hN, hT]
    have hn : FP.Core.nearest P N = 2 * T := by
      have hg1 : 2 * T - 1 + 1 = 2 * T := by omega
      have := near_hi (A := P) (B := N) (a := 2 * T - 1) (by
        have : (2 * (2 * T - 1) + 1) * N + N = 4 * (T * N) := by rw [← Nat.succ_mul, ← Nat.mul_assoc]; congr 1; omega
        omega) (by rw [hg1]; omega)
      rw [this, hg1]
    have hl2 : y * T + 2 * T = l := by rw [← hcode, Nat.succ_mul y T]; omega
    rw [hn, hl2, Nat.min_eq_left hl]
    rfl
theorem dr_ok {s : Bool} (sub : Bool) {l r : Nat} (hr : r ≤ l) (hl : l < FP.Core.infBits FP.Core.b32) : FP.Core.encode FP.Core.b32 (FP.Core.round FP.Core.b32 (FP.Core.roundRatio FP.Core.b64 s (zN FP.Core.b32 sub l r * kk) 1 FP.Core.b64.qmin)) = FP.Core.encode FP.Core.b32 (FP.Core.roundRatio FP.Core.b32 s (zN FP.Core.b32 sub l r) 1 FP.Core.b32.qmin) := by
  have eT : FP.Core.b32.tails = 8388608 := by decide
  have e1 : FP.Core.b32.qmin = -149 := FP.Core.qmin_b32
  have e2 : FP.Core.b64.qmin = -1074 := FP.Core.qmin_b64
  have e4 : FP.Core.b64.qmax = 971 := by decide
  have e6 : (2 : Nat) ^ FP.Core.b64.p = 9007199254740992 := by decide
  have hU := FP.Core.unitsOf_le_iff (f := FP.Core.b32).mpr hr
  have hl2 : sgN FP.Core.b32.tails l < 2 * FP.Core.b32.tails := sgN_lt (by omega)
  have hr2 : sgN FP.Core.b32.tails r < 2 * FP.Core.b32.tails := sgN_lt (by omega)
  have hxm := exN_mono (T := FP.Core.b32.tails) hr
  have hxr : 1 ≤ exN FP.Core.b32.tails r := exN_pos
  have hxl : exN FP.Core.b32.tails l ≤ 254 := by
    unfold exN
    have h1 : l / FP.Core.b32.tails < 255 := by
      rw [FP.Core.infBits_b32] at hl
      rw [eT]; omega
    omega
  obtain ⟨d, hd⟩ : ∃ d, exN FP.Core.b32.tails l = exN FP.Core.b32.tails r + d := ⟨exN FP.Core.b32.tails l - exN FP.Core.b32.tails r, by omega⟩
  have hpl : 2 ^ (exN FP.Core.b32.tails l - 1) = 2 ^ d * 2 ^ (exN FP.Core.b32.tails r - 1) := by rw [← Nat.pow_add]; congr 1; omega
  have h2r : 0 < 2 ^ (exN FP.Core.b32.tails r - 1) := Nat.two_pow_pos _
  have hz : zN FP.Core.b32 sub l r = (bif sub then sgN FP.Core.b32.tails l * 2 ^ d - sgN FP.Core.b32.tails r else sgN FP.Core.b32.tails l * 2 ^ d + sgN FP.Core.b32.tails r) * 2 ^ (exN FP.Core.b32.tails r - 1) := by
    unfold zN
    rw [un_eq l, un_eq r, hpl, ← Nat.mul_assoc]
    cases sub
    · simp only [cond_false, Nat.add_mul]
    · simp only [cond_true, Nat.sub_mul]
  by_cases hd28 : d ≤ 28
  · -- nothing is lost in the double
    have hk : (bif sub then sgN FP.Core.b32.tails l * 2 ^ d - sgN FP.Core.b32.tails r else sgN FP.Core.b32.tails l * 2 ^ d + sgN FP.Core.b32.tails r) < 2 ^ FP.Core.b64.p := by
      have h3 : 2 ^ d ≤ 2 ^ 28 := Nat.pow_le_pow_right (by decide) hd28
      have h4 : sgN FP.Core.b32.tails l * 2 ^ d ≤ 16777216 * 2 ^ 28 := Nat.mul_le_mul (by omega) h3
      rw [e6]
      cases sub
      · simp only [cond_false]; omega
      · simp only [cond_true]; omega
    rw [hz]
    generalize (bif sub then sgN FP.Core.b32.tails l * 2 ^ d - sgN FP.Core.b32.tails r else sgN FP.Core.b32.tails l * 2 ^ d + sgN FP.Core.b32.tails r) = k at hk
    generalize hE : exN FP.Core.b32.tails r - 1 = E at *
    have h5 : FP.Core.roundRatio FP.Core.b64 s (k * 2 ^ E * kk) 1 FP.Core.b64.qmin = FP.Core.round FP.Core.b64 (.fin s k ((E : Int) - 149)) := by
      refine FP.Core.roundRatio_congr (by decide) (by decide) ?_
      rw [e2, show ((-1074 : Int) - ((E : Int) - 149)).toNat = 0 by omega, show ((E : Int) - 149 - -1074).toNat = E + 925 by omega, kk_pow]
      simp only [Nat.pow_zero, Nat.mul_one]
      ac_rfl
    obtain ⟨c', q', g1, g2⟩ := FP.Core.round_exact FP.Core.good_b64 s (c := k) (q := (E : Int) - 149) hk (by omega) (by omega)
    have g3 := FP.Core.round_fits FP.Core.good_b64 (.fin s k ((E : Int) - 149))
    rw [g1] at g3
    rw [h5, g1, narrow_ok (Z := k * 2 ^ E) g3.2.1]
    rw [g2]
    unfold FP.Core.inUnits
    rw [e2, show ((E : Int) - 149 - -1074).toNat = E + 925 by omega, kk_pow, Nat.mul_assoc]
  · -- both roundings lead to the greater one
    have hx2 : 2 ≤ exN FP.Core.b32.tails l := by omega
    have hsm : 32 * sgN FP.Core.b32.tails r ≤ 2 ^ d := by
      have : 2 ^ 29 ≤ 2 ^ d := Nat.pow_le_pow_right (by decide) (by omega)
      omega
    have hsm2 : 32 * (sgN FP.Core.b32.tails r * 2 ^ (exN FP.Core.b32.tails r - 1)) ≤ 2 ^ (exN FP.Core.b32.tails l - 1) := by
      rw [hpl, ← Nat.mul_assoc]; exact Nat.mul_le_mul_right _ hsm
    have hZ : zN FP.Core.b32 sub l r ≤ sgN FP.Core.b32.tails l * 2 ^ (exN FP.Core.b32.tails l - 1) + sgN FP.Core.b32.tails r * 2 ^ (exN FP.Core.b32.tails r - 1) ∧ sgN FP.Core.b32.tails l * 2 ^ (exN FP.Core.b32.tails l - 1) ≤ zN FP.Core.b32 sub l r + sgN FP.Core.b32.tails r * 2 ^ (exN FP.Core.b32.tails r - 1) := by
      unfold zN
      rw [un_eq l, un_eq r] at *
      cases sub
      · simp only [cond_false]; omega
      · simp only [cond_true]; omega
    generalize zN FP.Core.b32 sub l r = Z at *
    have h3 : 32 * sgN FP.Core.b32.tails l * 2 ^ (exN FP.Core.b32.tails l - 1) = 32 * (sgN FP.Core.b32.tails l * 2 ^ (exN FP.Core.b32.tails l - 1)) := Nat.mul_assoc ..
    rw [near_big FP.Core.good_b32 (l := l) (Nat.le_of_lt hl) hx2 (by decide) (by rw [Nat.one_mul]; omega) (by rw [Nat.one_mul]; omega)]
    -- the double lies near
    have hgT := sgN_ge hx2
    have hB : 32 * sgN FP.Core.b32.tails l + 1 < 2 ^ FP.Core.b64.p := by rw [e6]; omega
    have hexl : exN FP.Core.b32.tails l - 1 = (exN FP.Core.b32.tails l - 6) + 5 := by omega
    obtain ⟨w, hw⟩ : ∃ w, exN FP.Core.b32.tails l - 6 = w := ⟨_, rfl⟩
    have hval : ∀ k, k < 2 ^ FP.Core.b64.p → ∃ c q, FP.Core.fits FP.Core.b64 (.fin false c q) ∧ FP.Core.zmag FP.Core.b64 (.fin false c q) = k * 2 ^ (w + 925) := by
      intro k hk
      obtain ⟨c', q', g1, g2⟩ := FP.Core.round_exact FP.Core.good_b64 false (c := k) (q := (w : Int) - 149) hk (by omega) (by omega)
      have g3 := FP.Core.round_fits FP.Core.good_b64 (.fin false k ((w : Int) - 149))
      rw [g1] at g3
      refine ⟨c', q', g3, ?_⟩
      show FP.Core.inUnits c' q' FP.Core.b64.qmin = _
      rw [g2]
      unfold FP.Core.inUnits
      rw [e2, show ((w : Int) - 149 - -1074).toNat = w + 925 by omega]
    have hun : ∀ A : Nat, FP.Core.inUnits A FP.Core.b64.qmin FP.Core.b64.qmin = A := fun A => by
      unfold FP.Core.inUnits
      rw [show (FP.Core.b64.qmin - FP.Core.b64.qmin).toNat = 0 by omega]; simp
    have h2w : 2 ^ (exN FP.Core.b32.tails l - 1) = 32 * 2 ^ w := by rw [hexl, hw, Nat.pow_add]; omega
    rw [h2w] at hZ hsm2
    have h925 : ∀ k : Nat, k * 2 ^ (w + 925) = k * 2 ^ w * kk := fun k => by rw [kk_pow, Nat.mul_assoc]
    have hq0 : sgN FP.Core.b32.tails l * (32 * 2 ^ w) = 32 * sgN FP.Core.b32.tails l * 2 ^ w := by ac_rfl
    have hlo : (32 * sgN FP.Core.b32.tails l - 1) * 2 ^ w ≤ Z := by
      have : (32 * sgN FP.Core.b32.tails l - 1) * 2 ^ w + 2 ^ w = 32 * sgN FP.Core.b32.tails l * 2 ^ w := by rw [← Nat.succ_mul]; congr 1; omega
      omega
    have hhi : Z ≤ (32 * sgN FP.Core.b32.tails l + 1) * 2 ^ w := by
      rw [Nat.succ_mul]; omega
    obtain ⟨cl, ql, fl, zl⟩ := hval (32 * sgN FP.Core.b32.tails l - 1) (by omega)
    obtain ⟨ch, qh, fh, zh⟩ := hval (32 * sgN FP.Core.b32.tails l + 1) hB
    have hge := FP.Core.zmag_roundRatio_ge FP.Core.good_b64 (s := s) (A := Z * kk) (B := 1) (e := FP.Core.b64.qmin) (e0 := FP.Core.b64.qmin) (by decide) fl (by omega) (by omega) (by
      rw [zl, hun, h925, Int.sub_self]
      simp only [Int.toNat_zero, Nat.pow_zero, Nat.mul_one]
      exact Nat.mul_le_mul_right _ hlo)
    have hle := FP.Core.zmag_roundRatio_le FP.Core.good_b64 (s := s) (A := Z * kk) (B := 1) (e := FP.Core.b64.qmin) (e0 := FP.Core.b64.qmin) (by decide) fh (by intro h; cases h) (by omega) (by omega) (by
      rw [zh, hun, h925, Int.sub_self]
      simp only [Int.toNat_zero, Nat.pow_zero, Nat.mul_one]
      exact Nat.mul_le_mul_right _ hhi)
    have hfit := FP.Core.roundRatio_fits FP.Core.good_b64 s (Z * kk) (B := 1) (by decide) FP.Core.b64.qmin
    rw [zl, h925] at hge
    rw [zh, h925] at hle
    rcases FP.Core.roundRatio_cases FP.Core.b64 s (Z * kk) 1 FP.Core.b64.qmin with ⟨c, q, hc⟩ | hc
    · rw [hc] at hge hle hfit ⊢
      have hX : FP.Core.zmag FP.Core.b64 (.fin s c q) = FP.Core.inUnits c q FP.Core.b64.qmin := rfl
      rw [hX] at hge hle
      have h7 : FP.Core.round FP.Core.b32 (.fin s c q) = FP.Core.roundRatio FP.Core.b32 s (FP.Core.inUnits c q FP.Core.b64.qmin) kk FP.Core.b32.qmin := by
        refine FP.Core.roundRatio_congr (by decide) kk_pos ?_
        have := hfit.2.1
        unfold FP.Core.inUnits
        rw [e1, e2] at *
        have hpw : kk * 2 ^ (q - -149).toNat = 2 ^ (q - -1074).toNat * 2 ^ (-149 - q).toNat := by
          rw [Nat.mul_comm, ← kk_pow, ← Nat.pow_add]
          congr 1
          omega
        rw [Nat.mul_assoc, hpw, Nat.mul_one, Nat.mul_assoc]
      rw [h7]
      generalize FP.Core.inUnits c q FP.Core.b64.qmin = X at *
      refine near_big FP.Core.good_b32 (Nat.le_of_lt hl) hx2 kk_pos ?_ ?_
      · rw [h2w]
        have q1 : (32 * sgN FP.Core.b32.tails l - 1) * 2 ^ w * kk + 2 ^ w * kk = 32 * sgN FP.Core.b32.tails l * 2 ^ w * kk := by
          rw [← Nat.add_mul, ← Nat.succ_mul]; congr 2; omega
        have q2 : 32 * sgN FP.Core.b32.tails l * (kk * (32 * 2 ^ w)) = 32 * (32 * sgN FP.Core.b32.tails l * 2 ^ w * kk) := by ac_rfl
        have q3 : kk * (32 * 2 ^ w) = 32 * (2 ^ w * kk) := by ac_rfl
        rw [q2, q3]
        generalize 32 * sgN FP.Core.b32.tails l * 2 ^ w * kk = Y1 at *
        generalize (32 * sgN FP.Core.b32.tails l - 1) * 2 ^ w * kk = Y2 at *
        generalize 2 ^ w * kk = Y3 at *
        omega
      · rw [h2w]
        have q1 : (32 * sgN FP.Core.b32.tails l + 1) * 2 ^ w * kk = 32 * sgN FP.Core.b32.tails l * 2 ^ w * kk + 2 ^ w * kk := by
          rw [Nat.succ_mul, Nat.add_mul]
        have q2 : 32 * sgN FP.Core.b32.tails l * (kk * (32 * 2 ^ w)) = 32 * (32 * sgN FP.Core.b32.tails l * 2 ^ w * kk) := by ac_rfl
        have q3 : kk * (32 * 2 ^ w) = 32 * (2 ^ w * kk) := by ac_rfl
        rw [q2, q3]
        rw [q1] at hle
        generalize 32 * sgN FP.Core.b32.tails l * 2 ^ w * kk = Y1 at *
        generalize 2 ^ w * kk = Y3 at *
        omega
    · exfalso
      rw [hc] at hle
      have h8 : FP.Core.zmag FP.Core.b64 (.inf s) = FP.Core.b64.tails * 2 ^ (FP.Core.b64.exps - 2) := rfl
      rw [FP.Core.tails_b64, show FP.Core.b64.exps - 2 = 2046 by decide] at h8
      rw [h8, ← h925] at hle
      have h9 : (32 * sgN FP.Core.b32.tails l + 1) * 2 ^ (w + 925) ≤ 2 ^ 30 * 2 ^ (248 + 925) := Nat.mul_le_mul (by omega) (Nat.pow_le_pow_right (by decide) (by omega))
      have h10 : (2 : Nat) ^ 30 * 2 ^ (248 + 925) < 2 ^ 52 * 2 ^ 2046 := by rw [← Nat.pow_add, ← Nat.pow_add]; exact Nat.pow_lt_pow_right (by decide) (by decide)
      exact absurd (Nat.le_trans hle h9) (Nat.not_le_of_lt h10)
