/-! Whole numbers near a number, on codes: T = 2 ^ F, the code of 1 is E1 * T. -/
def unN (F E1 m : Nat) : Nat := if m / 2 ^ F - E1 < F then 2 ^ (F - (m / 2 ^ F - E1)) else 1
def wdN (F E1 m : Nat) : Nat := if m < E1 * 2 ^ F then 0 else m - m % unN F E1 m
def wuN (F E1 m : Nat) : Nat := if m < E1 * 2 ^ F then (if m = 0 then 0 else E1 * 2 ^ F) else if m % unN F E1 m = 0 then m else m - m % unN F E1 m + unN F E1 m
def wnN (F E1 m : Nat) : Nat := if m < E1 * 2 ^ F then (if (E1 - 1) * 2 ^ F < m then E1 * 2 ^ F else 0) else if unN F E1 m < 2 * (m % unN F E1 m) ∨ (2 * (m % unN F E1 m) = unN F E1 m ∧ (2 ^ F + m % 2 ^ F) / unN F E1 m % 2 = 1) then m - m % unN F E1 m + unN F E1 m else m - m % unN F E1 m
theorem un_at {f : FP.Core.Fmt} {e j : Nat} (he : 1 ≤ e) (hj : j ≤ f.tails) : FP.Core.unitsOf f (e * f.tails + j) = (f.tails + j) * 2 ^ (e - 1) := by
  have hT := FP.Core.tails_pos f
  rcases Nat.lt_or_ge j f.tails with h | h
  · unfold FP.Core.unitsOf
    have h1 : ¬ e * f.tails + j < f.tails := by
      have : 1 * f.tails ≤ e * f.tails := Nat.mul_le_mul_right _ he
      omega
    rw [if_neg h1, Nat.mul_comm e, Nat.mul_add_mod, Nat.mod_eq_of_lt h, Nat.mul_add_div hT, Nat.div_eq_of_lt h, Nat.add_zero]
  · have hj' : j = f.tails := by omega
    subst hj'
    rw [← Nat.succ_mul, FP.Core.unitsOf_start (by omega), show e + 1 - 1 = (e - 1) + 1 by omega, Nat.pow_succ]
    generalize 2 ^ (e - 1) = X
    generalize f.tails = T
    rw [← Nat.mul_assoc, Nat.mul_comm, ← Nat.mul_assoc]
    congr 1
    omega
/-- what 1 is in units -/
def ouN (F E1 : Nat) : Nat := 2 ^ (E1 + F - 1)
theorem whole_units {f : FP.Core.Fmt} (hf : FP.Core.Good f) {F E1 m : Nat} (hF : f.tails = 2 ^ F) (hF1 : 1 ≤ F) (hE : 2 ≤ E1) :
    FP.Core.unitsOf f (wdN F E1 m) = FP.Core.unitsOf f m / ouN F E1 * ouN F E1 ∧
    FP.Core.unitsOf f (wuN F E1 m) = (if FP.Core.unitsOf f m % ouN F E1 = 0 then FP.Core.unitsOf f m / ouN F E1 else FP.Core.unitsOf f m / ouN F E1 + 1) * ouN F E1 ∧
    FP.Core.unitsOf f (wnN F E1 m) = FP.Core.nearest (FP.Core.unitsOf f m) (ouN F E1) * ouN F E1 := by
  have hou : 0 < ouN F E1 := Nat.two_pow_pos _
  have hone : FP.Core.unitsOf f (E1 * f.tails) = ouN F E1 := by
    rw [FP.Core.unitsOf_start (by omega), hF, ← Nat.pow_add]
    unfold ouN; congr 1; omega
  have hhalf : 2 * FP.Core.unitsOf f ((E1 - 1) * f.tails) = ouN F E1 := by
    rw [FP.Core.unitsOf_start (by omega), hF, ← Nat.pow_add]
    unfold ouN
    rw [show E1 + F - 1 = F + (E1 - 1 - 1) + 1 by omega, Nat.pow_succ]; omega
  have hlt := FP.Core.unitsOf_lt_iff (f := f) (m := m) (k := E1 * f.tails)
  have hlt2 := FP.Core.unitsOf_lt_iff (f := f) (m := (E1 - 1) * f.tails) (k := m)
  have hz := FP.Core.unitsOf_eq_zero (f := f) (m := m)
  rw [hone] at hlt
  rw [hF] at hone hhalf hlt hlt2
  unfold wdN wuN wnN
  by_cases h : m < E1 * 2 ^ F
  · rw [if_pos h, if_pos h, if_pos h]
    have hU := hlt.mpr h
    have hd : FP.Core.unitsOf f m / ouN F E1 = 0 := Nat.div_eq_of_lt hU
    have hm : FP.Core.unitsOf f m % ouN F E1 = FP.Core.unitsOf f m := Nat.mod_eq_of_lt hU
    refine ⟨by rw [hd, FP.Core.unitsOf_zero]; simp, ?_, ?_⟩
    · rw [hd, hm]
      by_cases h0 : m = 0
      · rw [if_pos h0, if_pos (hz.mpr h0), FP.Core.unitsOf_zero]; simp
      · rw [if_neg h0, if_neg (fun q => h0 (hz.mp q)), hone]; simp
    · unfold FP.Core.nearest
      rw [hd, hm]
      by_cases h1 : (E1 - 1) * 2 ^ F < m
      · have := hlt2.mpr h1
        rw [if_pos h1, if_neg (by omega), if_pos (by omega), hone]; simp
      · have : ¬ FP.Core.unitsOf f ((E1 - 1) * 2 ^ F) < FP.Core.unitsOf f m := fun q => h1 (hlt2.mp q)
        rw [if_neg h1, FP.Core.unitsOf_zero]
        split
        · simp
        · split
          · omega
          · simp
  · rw [if_neg h, if_neg h, if_neg h]
    have h2F : 0 < 2 ^ F := Nat.two_pow_pos F
    have hdm := Nat.div_add_mod m (2 ^ F)
    have htl : m % 2 ^ F < 2 ^ F := Nat.mod_lt _ h2F
    have hge : E1 ≤ m / 2 ^ F := (Nat.le_div_iff_mul_le h2F).mpr (by omega)
    have hun := un_at (f := f) (e := m / 2 ^ F) (j := m % 2 ^ F) (by omega) (by rw [hF]; omega)
    have hme : m / 2 ^ F * f.tails + m % 2 ^ F = m := by rw [hF, Nat.mul_comm]; exact hdm
    rw [hme] at hun
    have hcode : ∀ j, j ≤ 2 ^ F → FP.Core.unitsOf f (m - m % 2 ^ F + j) = (2 ^ F + j) * 2 ^ (m / 2 ^ F - 1) := fun j hj => by
      have := un_at (f := f) (e := m / 2 ^ F) (j := j) (by omega) (by rw [hF]; exact hj)
      rw [hF] at this
      rw [← this]
      congr 2
      rw [Nat.mul_comm]; omega
    rw [hF] at hun
    unfold unN
    by_cases ha : m / 2 ^ F - E1 < F
    · rw [if_pos ha]
      obtain ⟨u, hu⟩ : ∃ u, 2 ^ (F - (m / 2 ^ F - E1)) = u := ⟨_, rfl⟩
      rw [hu]
      have hu0 : 0 < u := by rw [← hu]; exact Nat.two_pow_pos _
      have huT : 2 ^ F = u * 2 ^ (m / 2 ^ F - E1) := by rw [← hu, ← Nat.pow_add]; congr 1; omega
      have hou2 : ouN F E1 = u * 2 ^ (m / 2 ^ F - 1) := by
        unfold ouN
        rw [← hu, ← Nat.pow_add]; congr 1; omega
      generalize 2 ^ (m / 2 ^ F - E1) = v at huT
      generalize hX : 2 ^ (m / 2 ^ F - 1) = X at *
      have hX0 : 0 < X := by rw [← hX]; exact Nat.two_pow_pos _
      generalize hq : m / 2 ^ F = q at *
      generalize ht : m % 2 ^ F = t at *
      have hmu : m % u = t % u := by
        rw [← hdm, huT, Nat.mul_assoc, Nat.mul_add_mod]
      have hcu : (2 ^ F + t) % u = t % u := by rw [huT, Nat.mul_add_mod]
      have htu : t % u ≤ t := Nat.mod_le _ _
      have htu2 : t % u < u := Nat.mod_lt _ hu0
      have hup : t - t % u + u ≤ 2 ^ F := by
        have hdt := Nat.div_add_mod t u
        have h1 : t / u < v := by rw [Nat.div_lt_iff_lt_mul hu0, Nat.mul_comm, ← huT]; exact htl
        have h2 : u * (t / u + 1) ≤ u * v := Nat.mul_le_mul_left u h1
        rw [Nat.mul_add, Nat.mul_one] at h2
        rw [huT]; omega
      have hcd := Nat.div_add_mod (2 ^ F + t) u
      rw [hcu] at hcd
      -- the values
      have hdiv : FP.Core.unitsOf f m / ouN F E1 = (2 ^ F + t) / u := by rw [hun, hou2, Nat.mul_div_mul_right _ _ hX0]
      have hmod : FP.Core.unitsOf f m % ouN F E1 = 0 ↔ t % u = 0 := by
        rw [hun, hou2, Nat.mul_mod_mul_right, hcu]
        constructor
        · intro h
          rcases Nat.mul_eq_zero.mp h with h | h <;> omega
        · intro h; rw [h]; simp
      have hnear : FP.Core.nearest (FP.Core.unitsOf f m) (ouN F E1) = FP.Core.nearest (2 ^ F + t) u := by rw [hun, hou2, FP.Core.nearest_scale _ _ _ hX0]
      have hdn : FP.Core.unitsOf f (m - t % u) = (2 ^ F + t) / u * ouN F E1 := by
        have := hcode (t - t % u) (by omega)
        rw [show m - t + (t - t % u) = m - t % u by omega] at this
        rw [this, hou2, ← Nat.mul_assoc]
        congr 1
        rw [Nat.mul_comm]; omega
      have hupv : FP.Core.unitsOf f (m - t % u + u) = ((2 ^ F + t) / u + 1) * ouN F E1 := by
        have := hcode (t - t % u + u) hup
        rw [show m - t + (t - t % u + u) = m - t % u + u by omega] at this
        rw [this, hou2, ← Nat.mul_assoc, Nat.add_mul _ 1 u]
        congr 1
        rw [Nat.mul_comm _ u]; omega
      rw [hmu, hdiv, hnear]
      refine ⟨hdn, ?_, ?_⟩
      · by_cases h0 : t % u = 0
        · rw [if_pos h0, if_pos (hmod.mpr h0), ← hdn, h0, Nat.sub_zero]
        · rw [if_neg h0, if_neg (fun q => h0 (hmod.mp q)), hupv]
      · unfold FP.Core.nearest
        rw [hcu]
        by_cases h1 : u < 2 * (t % u)
        · rw [if_pos (Or.inl h1), if_neg (by omega), if_pos h1, hupv]
        · by_cases h2 : 2 * (t % u) = u
          · have hnn : (if 2 * (t % u) < u then (2 ^ F + t) / u else if u < 2 * (t % u) then (2 ^ F + t) / u + 1 else (2 ^ F + t) / u + (2 ^ F + t) / u % 2) = (2 ^ F + t) / u + (2 ^ F + t) / u % 2 := by rw [if_neg (by omega), if_neg h1]
            rw [hnn]
            by_cases h3 : (2 ^ F + t) / u % 2 = 1
            · rw [if_pos (Or.inr ⟨h2, h3⟩), hupv, h3]
            · rw [if_neg (fun q => q.elim h1 (fun q => h3 q.2)), hdn, show (2 ^ F + t) / u % 2 = 0 by omega, Nat.add_zero]
          · rw [if_neg (fun q => q.elim h1 (fun q => h2 q.1)), if_pos (by omega), hdn]
    · rw [if_neg ha, Nat.mod_one]
      obtain ⟨g, hg⟩ : ∃ g, FP.Core.unitsOf f m = g * ouN F E1 := by
        refine ⟨(2 ^ F + m % 2 ^ F) * 2 ^ (m / 2 ^ F - 1 - (E1 + F - 1)), ?_⟩
        rw [hun, Nat.mul_assoc]
        unfold ouN
        rw [← Nat.pow_add]
        congr 2
        omega
      have e1 : FP.Core.unitsOf f m / ouN F E1 = g := by rw [hg, Nat.mul_div_cancel _ hou]
      have e2 : FP.Core.unitsOf f m % ouN F E1 = 0 := by rw [hg]; exact Nat.mul_mod_left _ _
      have e3 : FP.Core.nearest (FP.Core.unitsOf f m) (ouN F E1) = g := by rw [hg]; exact FP.Core.nearest_exact g hou
      rw [if_pos rfl, if_pos e2, e1, e3, if_neg (by omega)]
      exact ⟨hg, hg, hg⟩
