/-! Rounding, by the codes of magnitudes. -/
theorem kl1 {f : FP.Core.Fmt} (hf : FP.Core.Good f) (s : Bool) {P Q j : Nat} (hQ : 0 < Q) (hlt : P < 2 * f.tails * (Q * 2 ^ j)) (hge : j = 0 ∨ f.tails * (Q * 2 ^ j) ≤ P) :
    FP.Core.encode f (FP.Core.roundRatio f s P Q f.qmin) = s.toNat * FP.Core.half f + min (j * f.tails + FP.Core.nearest P (Q * 2 ^ j)) (FP.Core.infBits f) := by
  have hT := FP.Core.two_tails hf
  have hT2 := FP.Core.tails_two hf
  have hE := FP.Core.emax_exps hf
  have hE1 := FP.Core.emax_pos hf
  have hqq := FP.Core.qmax_qmin f
  have hp : 2 ≤ f.p := hf.2
  have hB : 0 < Q * 2 ^ j := Nat.mul_pos hQ (Nat.two_pow_pos j)
  have hasm : ∀ e t : Nat, FP.Core.assemble f s e t = s.toNat * (f.exps * f.tails) + (e * f.tails + t) := fun e t => by
    unfold FP.Core.assemble
    rw [Nat.add_mul, Nat.mul_assoc, Nat.add_assoc]
  have enF : ∀ (c : Nat) (q : Int), c < f.tails → FP.Core.encode f (.fin s c q) = s.toNat * (f.exps * f.tails) + c := fun c q h => by
    show (if c < f.tails then FP.Core.assemble f s 0 c else _) = _
    rw [if_pos h, hasm, Nat.zero_mul, Nat.zero_add]
  have enG : ∀ (c : Nat) (q : Int), f.tails ≤ c → FP.Core.encode f (.fin s c q) = s.toNat * (f.exps * f.tails) + (((q - f.qmin).toNat + 1) * f.tails + (c - f.tails)) := fun c q h => by
    show (if c < f.tails then _ else FP.Core.assemble f s ((q - f.qmin).toNat + 1) (c - f.tails)) = _
    rw [if_neg (by omega), hasm]
  have enI : FP.Core.encode f (.inf s) = s.toNat * (f.exps * f.tails) + (f.exps - 1) * f.tails := (hasm (f.exps - 1) 0)
  unfold FP.Core.half FP.Core.infBits
  by_cases hP : P = 0
  · have hj : j = 0 := by
      rcases hge with h | h
      · exact h
      · have : 0 < f.tails * (Q * 2 ^ j) := Nat.mul_pos (by omega) hB
        omega
    subst hj; subst hP
    have hn : FP.Core.nearest 0 (Q * 2 ^ 0) = 0 := by
      have := FP.Core.nearest_exact 0 hB
      rwa [Nat.zero_mul] at this
    unfold FP.Core.roundRatio
    rw [if_pos rfl, hn]
    rw [enF _ _ (by omega)]
    simp
  · have hq : FP.Core.quantum f P Q f.qmin = f.qmin + (j : Int) := by
      refine FP.Core.quantum_eq (by omega) hQ (by omega) ?_ ?_
      · show P * 2 ^ (-(f.qmin + (j : Int) - f.qmin + (f.p : Int))).toNat < Q * 2 ^ (f.qmin + (j : Int) - f.qmin + (f.p : Int)).toNat
        rw [show (-(f.qmin + (j : Int) - f.qmin + (f.p : Int))).toNat = 0 by omega, show (f.qmin + (j : Int) - f.qmin + (f.p : Int)).toNat = j + f.p by omega, Nat.pow_add, hT, Nat.pow_zero, Nat.mul_one]
        calc P < 2 * f.tails * (Q * 2 ^ j) := hlt
          _ = Q * (2 ^ j * (2 * f.tails)) := by ac_rfl
      · rcases hge with h | h
        · exact Or.inl (by omega)
        · refine Or.inr (fun hb => ?_)
          have hb : P * 2 ^ (-(f.qmin + (j : Int) - f.qmin + ((f.p : Int) - 1))).toNat < Q * 2 ^ (f.qmin + (j : Int) - f.qmin + ((f.p : Int) - 1)).toNat := hb
          rw [show (-(f.qmin + (j : Int) - f.qmin + ((f.p : Int) - 1))).toNat = 0 by omega, show (f.qmin + (j : Int) - f.qmin + ((f.p : Int) - 1)).toNat = j + (f.p - 1) by omega, Nat.pow_add, show 2 ^ (f.p - 1) = f.tails from rfl, Nat.pow_zero, Nat.mul_one] at hb
          have : Q * (2 ^ j * f.tails) = f.tails * (Q * 2 ^ j) := by ac_rfl
          omega
    unfold FP.Core.roundRatio
    rw [if_neg hP, hq]
    unfold FP.Core.roundAt FP.Core.unitsNum FP.Core.unitsDen
    rw [show (f.qmin - (f.qmin + (j : Int))).toNat = 0 by omega, show (f.qmin + (j : Int) - f.qmin).toNat = j by omega, Nat.pow_zero, Nat.mul_one]
    have hc1 : FP.Core.nearest P (Q * 2 ^ j) ≤ 2 * f.tails := FP.Core.nearest_le hB (Nat.le_of_lt hlt)
    have hc2 : j = 0 ∨ f.tails ≤ FP.Core.nearest P (Q * 2 ^ j) := hge.imp id (FP.Core.nearest_ge hB)
    generalize FP.Core.nearest P (Q * 2 ^ j) = c at hc1 hc2
    generalize hTT : f.tails = T at *
    generalize f.exps = X at *
    unfold FP.Core.settle FP.Core.bound
    have e1 : (j + 1) * T = j * T + T := Nat.succ_mul j T
    have e2 : (j + 2) * T = j * T + 2 * T := Nat.add_mul j 2 T
    by_cases h1 : c < 2 ^ f.p
    · rw [if_pos h1]
      by_cases h2 : f.qmin + (j : Int) ≤ f.qmax
      · rw [if_pos h2]
        have h3 : (j + 2) * T ≤ (X - 1) * T := Nat.mul_le_mul_right T (by omega)
        rw [Nat.min_eq_left (by omega)]
        by_cases h4 : c < T
        · rw [enF _ _ h4]
          have hj : j = 0 := by omega
          subst hj
          omega
        · rw [enG _ _ (by omega), show (f.qmin + (j : Int) - f.qmin).toNat = j by omega]
          omega
      · rw [if_neg h2]
        have h3 : (X - 1) * T ≤ (j + 1) * T := Nat.mul_le_mul_right T (by omega)
        rw [Nat.min_eq_right (by omega)]
        exact enI
    · rw [if_neg h1]
      by_cases h2 : f.qmin + (j : Int) + 1 ≤ f.qmax
      · rw [if_pos h2]
        have h3 : (j + 2) * T ≤ (X - 1) * T := Nat.mul_le_mul_right T (by omega)
        rw [Nat.min_eq_left (by omega)]
        rw [hTT, enG _ _ (Nat.le_refl _), show (f.qmin + (j : Int) + 1 - f.qmin).toNat = j + 1 by omega, show j + 1 + 1 = j + 2 from rfl]
        omega
      · rw [if_neg h2]
        have h3 : (X - 1) * T ≤ (j + 2) * T := Nat.mul_le_mul_right T (by omega)
        rw [Nat.min_eq_right (by omega)]
        exact enI

theorem near_lo {A B a : Nat} (h1 : a * B ≤ A) (h2 : 2 * A < (2 * a + 1) * B) : FP.Core.nearest A B = a := by
  have e1 : (2 * a + 1) * B = 2 * (a * B) + B := by rw [Nat.add_mul, Nat.mul_assoc, Nat.one_mul]
  have e2 : (a + 1) * B = a * B + B := Nat.succ_mul a B
  have hB : 0 < B := by omega
  have hd : A / B = a := Nat.div_eq_of_lt_le (by omega) (by omega)
  have hm : A % B = A - a * B := by
    have := Nat.div_add_mod A B
    rw [hd, Nat.mul_comm] at this
    omega
  unfold FP.Core.nearest
  rw [hm, if_pos (by omega), hd]
theorem near_hi {A B a : Nat} (h1 : (2 * a + 1) * B < 2 * A) (h2 : A ≤ (a + 1) * B) : FP.Core.nearest A B = a + 1 := by
  have e1 : (2 * a + 1) * B = 2 * (a * B) + B := by rw [Nat.add_mul, Nat.mul_assoc, Nat.one_mul]
  have e2 : (a + 1) * B = a * B + B := Nat.succ_mul a B
  by_cases h3 : A = (a + 1) * B
  · rw [h3]; exact FP.Core.nearest_exact _ (by omega)
  · have hd : A / B = a := Nat.div_eq_of_lt_le (by omega) (by omega)
    have hm : A % B = A - a * B := by
      have := Nat.div_add_mod A B
      rw [hd, Nat.mul_comm] at this
      omega
    unfold FP.Core.nearest
    rw [hm, if_neg (by omega), if_pos (by omega), hd]
/-- m tells the number P / Q well enough to round it: exactly, or an odd multiple of g stands for all between its even neighbours -/
def Stk (g m P Q : Nat) : Prop := P = m * Q ∨ ∃ t, m = g * (2 * t + 1) ∧ g * (2 * t) * Q < P ∧ P < g * (2 * t + 2) * Q
theorem stk_near {g m P Q : Nat} (hg : g = 1 ∨ g = 2) (hQ : 0 < Q) (h : Stk g m P Q) : FP.Core.nearest P (8 * Q) = FP.Core.nearest m 8 := by
  rcases h with h | ⟨t, rfl, h1, h2⟩
  · rw [h]; exact FP.Core.nearest_scale m 8 Q hQ
  · have key : ∀ u w : Nat, u * Q < P → P < w * Q → w ≤ u + 4 → (u % 8 < 4 → w ≤ u / 8 * 8 + 4) → w ≤ u / 8 * 8 + 8 → FP.Core.nearest P (8 * Q) = if u % 8 < 4 then u / 8 else u / 8 + 1 := by
      intro u w h1 h2 h3 h4 h5
      by_cases hu : u % 8 < 4
      · rw [if_pos hu]
        refine near_lo ?_ ?_
        · calc u / 8 * (8 * Q) = u / 8 * 8 * Q := by rw [Nat.mul_assoc]
            _ ≤ u * Q := Nat.mul_le_mul_right Q (by omega)
            _ ≤ P := Nat.le_of_lt h1
        · calc 2 * P < 2 * (w * Q) := by omega
            _ ≤ 2 * ((u / 8 * 8 + 4) * Q) := Nat.mul_le_mul_left 2 (Nat.mul_le_mul_right Q (h4 hu))
            _ = (2 * (u / 8) + 1) * (8 * Q) := by
              rw [← Nat.mul_assoc, ← Nat.mul_assoc]; congr 1; omega
      · rw [if_neg hu]
        refine near_hi ?_ ?_
        · calc (2 * (u / 8) + 1) * (8 * Q) = (2 * (u / 8 * 8 + 4)) * Q := by rw [← Nat.mul_assoc]; congr 1; omega
            _ ≤ (2 * u) * Q := Nat.mul_le_mul_right Q (by omega)
            _ = 2 * (u * Q) := Nat.mul_assoc ..
            _ < 2 * P := by omega
        · calc P ≤ w * Q := Nat.le_of_lt h2
            _ ≤ ((u / 8 + 1) * 8) * Q := Nat.mul_le_mul_right Q (by omega)
            _ = (u / 8 + 1) * (8 * Q) := Nat.mul_assoc ..
    rw [key _ _ h1 h2 (by rcases hg with rfl | rfl <;> omega) (by rcases hg with rfl | rfl <;> omega) (by rcases hg with rfl | rfl <;> omega)]
    unfold FP.Core.nearest
    rcases hg with rfl | rfl <;> (repeat' split) <;> omega
/-- shifted down, the last bit set if a bit fell off -/
def shd (m k : Nat) : Nat := if k < 60 then (if m / 2 ^ k * 2 ^ k = m then m / 2 ^ k else 2 * (m / 2 ^ k / 2) + 1) else if m = 0 then 0 else 1
theorem stk_bounds {m P Q : Nat} (h : Stk 1 m P Q) (hm : 0 < m) (hQ : 0 < Q) : (m - 1) * Q ≤ P ∧ 0 < P ∧ P < (m + 1) * Q := by
  have e1 : (m - 1) * Q + Q = m * Q := by
    rw [← Nat.succ_mul]; congr 1; omega
  have e2 : (m + 1) * Q = m * Q + Q := Nat.succ_mul m Q
  rcases h with h | ⟨t, h0, h1, h2⟩
  · have : 0 < m * Q := Nat.mul_pos hm hQ
    omega
  · rw [Nat.one_mul] at h0 h1 h2
    subst h0
    rw [show 2 * t + 1 - 1 = 2 * t by omega]
    rw [show 2 * t + 1 + 1 = 2 * t + 2 by omega]
    exact ⟨Nat.le_of_lt h1, by omega, h2⟩
theorem shd_stk {m k P Q : Nat} (hQ : 0 < Q) (h : Stk 1 m P Q) (hm : m < 2 ^ 60) : Stk 1 (shd m k) P (Q * 2 ^ k) := by
  have h2k : 0 < 2 ^ k := Nat.two_pow_pos k
  unfold shd
  by_cases hk : k < 60
  · rw [if_pos hk]
    by_cases hd : m / 2 ^ k * 2 ^ k = m
    · rw [if_pos hd]
      rcases h with h | ⟨t, h0, h1, h2⟩
      · left
        rw [h]
        calc m * Q = m / 2 ^ k * 2 ^ k * Q := by rw [hd]
          _ = m / 2 ^ k * (Q * 2 ^ k) := by rw [Nat.mul_assoc, Nat.mul_comm Q]
      · have hk0 : k = 0 := by
          rcases Nat.eq_zero_or_pos k with h | h
          · exact h
          · exfalso
            have e : 2 ^ k = 2 * 2 ^ (k - 1) := FP.Core.two_pow_pred k h
            rw [e] at hd
            have : m / (2 * 2 ^ (k - 1)) * (2 * 2 ^ (k - 1)) = 2 * (m / (2 * 2 ^ (k - 1)) * 2 ^ (k - 1)) := by ac_rfl
            omega
        subst hk0
        rw [Nat.pow_zero, Nat.div_one, Nat.mul_one]
        exact Or.inr ⟨t, h0, h1, h2⟩
    · rw [if_neg hd]
      have hlt : m % 2 ^ k < 2 ^ k := Nat.mod_lt _ h2k
      have hdm := Nat.div_add_mod m (2 ^ k)
      rw [Nat.mul_comm] at hdm
      have hb := stk_bounds h (by rcases Nat.eq_zero_or_pos m with h | h; (exfalso; apply hd; rw [h]; simp); exact h) hQ
      generalize m / 2 ^ k = q at *
      have hq1 : q * (Q * 2 ^ k) < P := by
        rcases h with h | ⟨t, h0, h1, h2⟩
        · rw [h]
          calc q * (Q * 2 ^ k) = (q * 2 ^ k) * Q := by ac_rfl
            _ < m * Q := Nat.mul_lt_mul_of_pos_right (by omega) hQ
        · calc q * (Q * 2 ^ k) = (q * 2 ^ k) * Q := by ac_rfl
            _ ≤ (1 * (2 * t)) * Q := Nat.mul_le_mul_right Q (by omega)
            _ < P := h1
      have hq2 : P < (q + 1) * (Q * 2 ^ k) := by
        calc P < (m + 1) * Q := hb.2.2
          _ ≤ ((q + 1) * 2 ^ k) * Q := Nat.mul_le_mul_right Q (by rw [Nat.succ_mul]; omega)
          _ = (q + 1) * (Q * 2 ^ k) := by ac_rfl
      refine Or.inr ⟨q / 2, by omega, ?_, ?_⟩
      · exact Nat.lt_of_le_of_lt (Nat.mul_le_mul_right _ (by omega)) hq1
      · exact Nat.lt_of_lt_of_le hq2 (Nat.mul_le_mul_right _ (by omega))
  · rw [if_neg hk]
    by_cases h0 : m = 0
    · rw [if_pos h0]
      left
      rcases h with h | ⟨t, h1, -, -⟩
      · rw [h, h0]; simp
      · omega
    · rw [if_neg h0]
      have hb := stk_bounds h (by omega) hQ
      refine Or.inr ⟨0, rfl, by simpa using hb.2.1, ?_⟩
      have : 2 ^ 60 ≤ 2 ^ k := Nat.pow_le_pow_right (by decide) (by omega)
      calc P < (m + 1) * Q := hb.2.2
        _ ≤ (2 * 2 ^ k) * Q := Nat.mul_le_mul_right Q (by omega)
        _ = 1 * (2 * 0 + 2) * (Q * 2 ^ k) := by simp only [Nat.mul_zero, Nat.zero_add, Nat.one_mul]; ac_rfl
