/-! The component's rounding, on whole numbers. -/
def ndLoop (L : Nat) : Nat → Nat → Int → Nat × Int
  | 0, m, e => (m, e)
  | k + 1, m, e => if m < L then (if 1 < e then ndLoop L k (2 * m) (e - 1) else (m, e)) else (m, e)
theorem nd_ok (L : Nat) : ∀ (k m : Nat) (e : Int), L ≤ m * 2 ^ k → ∃ i : Nat, ndLoop L k m e = (m * 2 ^ i, e - i) ∧ (L ≤ m * 2 ^ i ∨ e - i ≤ 1) ∧ (i = 0 ∨ (m * 2 ^ i < 2 * L ∧ 1 ≤ e - i)) := by
  intro k
  induction k with
  | zero =>
    intro m e h
    exact ⟨0, by simp [ndLoop], Or.inl h, Or.inl rfl⟩
  | succ k ih =>
    intro m e h
    rw [ndLoop]
    by_cases h1 : m < L
    · rw [if_pos h1]
      by_cases h2 : 1 < e
      · rw [if_pos h2]
        have e2 : ∀ i, 2 * m * 2 ^ i = m * 2 ^ (i + 1) := fun i => by rw [Nat.pow_succ]; ac_rfl
        obtain ⟨i, h3, h4, h5⟩ := ih (2 * m) (e - 1) (by rw [e2]; exact h)
        rw [e2] at h3 h4 h5
        refine ⟨i + 1, by rw [h3]; congr 1; omega, h4.imp id (by omega), Or.inr ?_⟩
        rcases h5 with h5 | ⟨h5, h6⟩
        · subst h5
          constructor
          · rw [Nat.pow_one]; omega
          · omega
        · exact ⟨h5, by omega⟩
      · rw [if_neg h2]
        exact ⟨0, by simp, Or.inr (by omega), Or.inl rfl⟩
    · rw [if_neg h1]
      exact ⟨0, by simp, Or.inl (by omega), Or.inl rfl⟩
def rd1 (T m : Nat) (e : Int) : Nat × Int := if m < 16 * T then (m, e) else (shd m 1, e + 1)
def rd2 (T m : Nat) (e : Int) : Nat × Int := ndLoop (8 * T) 60 (rd1 T m e).1 (rd1 T m e).2
def rd3 (x : Nat × Int) : Nat × Int := if x.2 < 1 then (shd x.1 (1 - x.2).toNat, 1) else x
def rd4 (T EI : Nat) (x : Nat × Int) : Nat := if x.2 < EI then (x.2 - 1).toNat * T + FP.Core.nearest x.1 8 else EI * T
/-- the code of the magnitude m / 8 * 2 ^ (e - 1), rounded -/
def rdN (T EI m : Nat) (e : Int) : Nat := rd4 T EI (rd3 (rd2 T m e))
theorem rd4_ok {f : FP.Core.Fmt} (hf : FP.Core.Good f) (s : Bool) {g m P Q : Nat} {e : Int} (hg : g = 1 ∨ g = 2) (hQ : 0 < Q) (h : Stk g m P Q) (he : 1 ≤ e) (hm : m < 16 * f.tails) (hn : e = 1 ∨ 8 * f.tails ≤ m) :
    FP.Core.encode f (FP.Core.roundRatio f s P (8 * Q) (f.qmin + (e - 1))) = s.toNat * FP.Core.half f + rd4 f.tails (f.exps - 1) (m, e) := by
  have hE := FP.Core.emax_exps hf
  have hE1 := FP.Core.emax_pos hf
  obtain ⟨j, rfl⟩ : ∃ j : Nat, e = (j : Int) + 1 := ⟨(e - 1).toNat, by omega⟩
  have hB : 0 < 8 * Q := by omega
  have hT8 : ∀ g t X : Nat, (g = 1 ∨ g = 2) → g * (2 * t + 1) < 16 * X → g * (2 * t + 2) ≤ 16 * X := fun g t X hg h => by
    rcases hg with rfl | rfl <;> omega
  have hT9 : ∀ g t X : Nat, (g = 1 ∨ g = 2) → 8 * X ≤ g * (2 * t + 1) → 8 * X ≤ g * (2 * t) := fun g t X hg h => by
    rcases hg with rfl | rfl <;> omega
  have hlt : P < 16 * f.tails * Q := by
    rcases h with h | ⟨t, rfl, h1, h2⟩
    · rw [h]; exact Nat.mul_lt_mul_of_pos_right hm hQ
    · exact Nat.lt_of_lt_of_le h2 (Nat.mul_le_mul_right Q (hT8 _ _ _ hg hm))
  have hge : j = 0 ∨ 8 * f.tails * Q ≤ P := by
    rcases hn with h0 | h0
    · exact Or.inl (by omega)
    · right
      rcases h with h | ⟨t, rfl, h1, h2⟩
      · rw [h]; exact Nat.mul_le_mul_right Q h0
      · exact Nat.le_trans (Nat.mul_le_mul_right Q (hT9 _ _ _ hg h0)) (Nat.le_of_lt h1)
  have hr : FP.Core.roundRatio f s P (8 * Q) (f.qmin + ((j : Int) + 1 - 1)) = FP.Core.roundRatio f s (P * 2 ^ j) (8 * Q) f.qmin := by
    refine FP.Core.roundRatio_congr hB hB ?_
    rw [show (f.qmin + ((j : Int) + 1 - 1) - f.qmin).toNat = j by omega, show (f.qmin - (f.qmin + ((j : Int) + 1 - 1))).toNat = 0 by omega, Nat.pow_zero, Nat.mul_one]
    ac_rfl
  have h2j := Nat.two_pow_pos j
  rw [hr, kl1 hf s (j := j) hB ?_ ?_, FP.Core.nearest_scale P (8 * Q) (2 ^ j) h2j, stk_near hg hQ h]
  · congr 1
    unfold rd4 FP.Core.infBits
    have hc1 : FP.Core.nearest m 8 ≤ 2 * f.tails := FP.Core.nearest_le (by decide) (by omega)
    have hc2 : j = 0 ∨ f.tails ≤ FP.Core.nearest m 8 := by
      rcases hn with h0 | h0
      · exact Or.inl (by omega)
      · exact Or.inr (FP.Core.nearest_ge (by decide) (by omega))
    generalize FP.Core.nearest m 8 = c at hc1 hc2
    show min (j * f.tails + c) ((f.exps - 1) * f.tails) = if (j : Int) + 1 < ((f.exps - 1 : Nat) : Int) then ((j : Int) + 1 - 1).toNat * f.tails + c else (f.exps - 1) * f.tails
    rw [show ((j : Int) + 1 - 1).toNat = j by omega]
    generalize f.tails = T at *
    generalize f.exps = X at *
    have e1 : (j + 1) * T = j * T + T := Nat.succ_mul j T
    have e2 : (j + 2) * T = j * T + 2 * T := Nat.add_mul j 2 T
    by_cases h3 : (j : Int) + 1 < ((X - 1 : Nat) : Int)
    · rw [if_pos h3]
      have h4 : (j + 2) * T ≤ (X - 1) * T := Nat.mul_le_mul_right T (by omega)
      exact Nat.min_eq_left (by omega)
    · rw [if_neg h3]
      have h4 : (X - 1) * T ≤ (j + 1) * T := Nat.mul_le_mul_right T (by omega)
      exact Nat.min_eq_right (by omega)
  · calc P * 2 ^ j < 16 * f.tails * Q * 2 ^ j := Nat.mul_lt_mul_of_pos_right hlt h2j
      _ = 2 * f.tails * (8 * Q * 2 ^ j) := by rw [show 16 = 2 * 8 from rfl]; ac_rfl
  · rcases hge with h0 | h0
    · exact Or.inl h0
    · right
      calc f.tails * (8 * Q * 2 ^ j) = 8 * f.tails * Q * 2 ^ j := by ac_rfl
        _ ≤ P * 2 ^ j := Nat.mul_le_mul_right _ h0
theorem shd_lt {m k T : Nat} (hT : 0 < T) (hk : 1 ≤ k) (h : m < 32 * T) : shd m k < 16 * T := by
  unfold shd
  have h1 : m / 2 ^ k ≤ m / 2 := by
    have : 2 ^ 1 ≤ 2 ^ k := Nat.pow_le_pow_right (by decide) hk
    exact Nat.div_le_div_left (by omega) (by decide)
  split
  · split <;> omega
  · split <;> omega
theorem rdN_ok {f : FP.Core.Fmt} (hf : FP.Core.Good f) (hT : 32 * f.tails ≤ 2 ^ 58) (s : Bool) {m P Q : Nat} {e : Int} (hQ : 0 < Q) (h : Stk 1 m P Q) (hm0 : 0 < m) (hm : m < 32 * f.tails) (hx : P = m * Q ∨ 4 * f.tails ≤ m) :
    FP.Core.encode f (FP.Core.roundRatio f s P (8 * Q) (f.qmin + (e - 1))) = s.toNat * FP.Core.half f + rdN f.tails (f.exps - 1) m e := by
  have hT2 := FP.Core.tails_two hf
  -- the first step
  obtain ⟨m1, e1, Q1, h1, hQ1, hs1, hm1, hm1', hx1, hr1⟩ : ∃ m1 e1 Q1, rd1 f.tails m e = (m1, e1) ∧ 0 < Q1 ∧ Stk 1 m1 P Q1 ∧ 0 < m1 ∧ m1 < 16 * f.tails ∧ (P = m1 * Q1 ∨ 4 * f.tails ≤ m1) ∧ FP.Core.roundRatio f s P (8 * Q) (f.qmin + (e - 1)) = FP.Core.roundRatio f s P (8 * Q1) (f.qmin + (e1 - 1)) := by
    unfold rd1
    by_cases h0 : m < 16 * f.tails
    · rw [if_pos h0]
      exact ⟨m, e, Q, rfl, hQ, h, hm0, h0, hx, rfl⟩
    · rw [if_neg h0]
      have hb : 8 * f.tails ≤ shd m 1 := by
        unfold shd
        rw [if_pos (by decide)]
        split <;> omega
      refine ⟨shd m 1, e + 1, Q * 2 ^ 1, rfl, by omega, shd_stk hQ h (by omega), by omega, shd_lt (by omega) (by decide) hm, Or.inr (by omega), ?_⟩
      refine FP.Core.roundRatio_congr (by omega) (by omega) ?_
      rw [show (f.qmin + (e - 1) - (f.qmin + (e + 1 - 1))).toNat = 0 by omega, show (f.qmin + (e + 1 - 1) - (f.qmin + (e - 1))).toNat = 1 by omega, Nat.pow_zero, Nat.mul_one]
      ac_rfl
  rw [hr1]
  unfold rdN rd2
  rw [h1]
  -- the loop
  obtain ⟨i, h2, h3, h4⟩ := nd_ok (8 * f.tails) 60 m1 e1 (by
    calc 8 * f.tails ≤ 1 * 2 ^ 60 := by omega
      _ ≤ m1 * 2 ^ 60 := Nat.mul_le_mul_right _ hm1)
  show _ = s.toNat * FP.Core.half f + rd4 f.tails (f.exps - 1) (rd3 (ndLoop (8 * f.tails) 60 m1 e1))
  rw [h2]
  have hr2 : FP.Core.roundRatio f s P (8 * Q1) (f.qmin + (e1 - 1)) = FP.Core.roundRatio f s (P * 2 ^ i) (8 * Q1) (f.qmin + (e1 - i - 1)) := by
    refine FP.Core.roundRatio_congr (by omega) (by omega) ?_
    rw [show (f.qmin + (e1 - 1) - (f.qmin + (e1 - i - 1))).toNat = i by omega, show (f.qmin + (e1 - i - 1) - (f.qmin + (e1 - 1))).toNat = 0 by omega, Nat.pow_zero, Nat.mul_one]
    ac_rfl
  rcases h4 with h4 | ⟨h4, h5⟩
  · subst h4
    have e0 : m1 * 2 ^ 0 = m1 := by simp
    have e0' : e1 - ((0 : Nat) : Int) = e1 := by omega
    rw [e0] at h3 ⊢
    rw [e0'] at h3 ⊢
    unfold rd3
    show _ = s.toNat * FP.Core.half f + rd4 f.tails (f.exps - 1) (if e1 < 1 then (shd m1 (1 - e1).toNat, 1) else (m1, e1))
    by_cases h5 : e1 < 1
    · rw [if_pos h5, ← rd4_ok hf s (g := 1) (P := P) (Q := Q1 * 2 ^ (1 - e1).toNat) (Or.inl rfl) (Nat.mul_pos hQ1 (Nat.two_pow_pos _)) (shd_stk hQ1 hs1 (by omega)) (by decide) (shd_lt (by omega) (by omega) (by omega)) (Or.inl rfl)]
      congr 1
      refine FP.Core.roundRatio_congr (by omega) (Nat.mul_pos (by decide) (Nat.mul_pos hQ1 (Nat.two_pow_pos _))) ?_
      rw [show (f.qmin + (e1 - 1) - (f.qmin + (1 - 1))).toNat = 0 by omega, show (f.qmin + (1 - 1) - (f.qmin + (e1 - 1))).toNat = (1 - e1).toNat by omega, Nat.pow_zero, Nat.mul_one]
      ac_rfl
    · rw [if_neg h5]
      exact rd4_ok hf s (g := 1) (Or.inl rfl) hQ1 hs1 (by omega) hm1' (by omega)
  · unfold rd3
    show _ = s.toNat * FP.Core.half f + rd4 f.tails (f.exps - 1) (if e1 - i < 1 then (shd (m1 * 2 ^ i) (1 - (e1 - i)).toNat, 1) else (m1 * 2 ^ i, e1 - i))
    rw [if_neg (by omega), hr2]
    by_cases h6 : P = m1 * Q1
    · refine rd4_ok hf s (g := 1) (Or.inl rfl) hQ1 (Or.inl (by rw [h6]; ac_rfl)) h5 (by omega) (by omega)
    · have h7 : 4 * f.tails ≤ m1 := by omega
      have hi : i < 2 := by
        refine Nat.lt_of_not_le (fun hi => ?_)
        have h8 : 2 ^ 2 ≤ 2 ^ i := Nat.pow_le_pow_right (by decide) hi
        have h9 : 4 * f.tails * 2 ^ 2 ≤ m1 * 2 ^ i := Nat.mul_le_mul h7 h8
        omega
      rcases (show i = 0 ∨ i = 1 by omega) with rfl | rfl
      · rw [show m1 * 2 ^ 0 = m1 by simp, show P * 2 ^ 0 = P by simp]
        rw [show m1 * 2 ^ 0 = m1 by simp] at h4 h3
        exact rd4_ok hf s (g := 1) (Or.inl rfl) hQ1 hs1 h5 hm1' (by omega)
      · refine rd4_ok hf s (g := 2) (Or.inr rfl) hQ1 ?_ h5 (by omega) (by omega)
        rcases hs1 with h8 | ⟨t, h8, h9, h10⟩
        · exact absurd h8 h6
        · refine Or.inr ⟨t, by omega, ?_, ?_⟩
          · calc 2 * (2 * t) * Q1 = (1 * (2 * t) * Q1) * 2 := by rw [Nat.one_mul]; ac_rfl
              _ < P * 2 := by omega
              _ = P * 2 ^ 1 := by rw [Nat.pow_one]
          · calc P * 2 ^ 1 = P * 2 := by rw [Nat.pow_one]
              _ < (1 * (2 * t + 2) * Q1) * 2 := by omega
              _ = 2 * (2 * t + 2) * Q1 := by rw [Nat.one_mul]; ac_rfl
