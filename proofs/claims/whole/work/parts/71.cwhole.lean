/-! The component's whole numbers near a number. -/
def e1N (n : Bool) : Nat := bif n then 127 else 1023
theorem one_eq (n : Bool) : psOne n = lN (e1N n * 2 ^ fbN n) := by cases n <;> decide
theorem half_eq (n : Bool) : psHalf n = lN ((e1N n - 1) * 2 ^ fbN n) := by cases n <;> decide
theorem one_lt (n : Bool) : e1N n * 2 ^ fbN n < ibN n := by cases n <;> decide
theorem nb_neg {j : Nat} (hj : j < 64) : -(lN (2 ^ j)) = lN (2 ^ 64 - 2 ^ j) := by
  have h : (2 : Nat) ^ j < 2 ^ 64 := Nat.pow_lt_pow_right (by decide) hj
  apply nb_ext
  apply BitVec.eq_of_toNat_eq
  rw [Int64.toBitVec_neg, BitVec.toNat_neg, nb_bv, nb_bv, BitVec.toNat_ofNat, BitVec.toNat_ofNat, Nat.mod_eq_of_lt h]
theorem nb_round {m j : Nat} (hm : m < 2 ^ 64) (hj : j < 64) : lN m &&& -(lN (2 ^ j)) = lN (m - m % 2 ^ j) := by
  rw [nb_neg hj, nb_and]
  congr 1
  have h2 : 0 < 2 ^ j := Nat.two_pow_pos j
  have e1 : 2 ^ 64 - 2 ^ j = 2 ^ j * (2 ^ (64 - j) - 1) := by
    rw [Nat.mul_sub, ← Nat.pow_add, Nat.mul_one, show j + (64 - j) = 64 by omega]
  have e2 : m = 2 ^ j * (m / 2 ^ j) + m % 2 ^ j := (Nat.div_add_mod m (2 ^ j)).symm
  have e3 := nx_and (i := j) (a := m / 2 ^ j) (b := 2 ^ (64 - j) - 1) (m := m % 2 ^ j) (Nat.mod_lt _ h2)
  rw [← e2, ← e1, Nat.and_two_pow_sub_one_eq_mod, Nat.mod_eq_of_lt] at e3
  · rw [e3]; omega
  · rw [Nat.div_lt_iff_lt_mul h2, ← Nat.pow_add, show 64 - j + j = 64 by omega]; exact hm
theorem un_pow {F E1 m : Nat} : ∃ j, j ≤ F ∧ unN F E1 m = 2 ^ j ∧ (m / 2 ^ F - E1 < F → j = F - (m / 2 ^ F - E1)) ∧ (¬ m / 2 ^ F - E1 < F → j = 0) := by
  unfold unN
  by_cases h : m / 2 ^ F - E1 < F
  · rw [if_pos h]; exact ⟨_, by omega, rfl, fun _ => rfl, fun q => absurd h q⟩
  · rw [if_neg h]; exact ⟨0, by omega, rfl, fun q => absurd q h, fun _ => rfl⟩
theorem s1_unit {n : Bool} {m : Nat} (h1 : e1N n * 2 ^ fbN n ≤ m) (hm : m < hfN n) : sX1_unitOf n (lN m) = lN (unN (fbN n) (e1N n) m) := by
  have h63 := hf_le n
  have hlt : m / 2 ^ fbN n < 2 ^ 31 := by cases n <;> simp only [cond_true, cond_false, fbN, hfN] at * <;> omega
  have hge : e1N n ≤ m / 2 ^ fbN n := (Nat.le_div_iff_mul_le (Nat.two_pow_pos _)).mpr h1
  have he1 : sX1_unitOf_e1 n (lN m) = nI (m / 2 ^ fbN n - e1N n) := by
    unfold sX1_unitOf_e1
    rw [fb_cnt, nb_shr (by omega) (by cases n <;> decide), nI_of_lN hlt, show psE1 n = nI (e1N n) by cases n <;> decide, nI_sub hge hlt]
  unfold sX1_unitOf unN
  rw [he1, show psFB n = nI (fbN n) by cases n <;> decide]
  have ha31 : m / 2 ^ fbN n - e1N n < 2 ^ 31 := by omega
  generalize m / 2 ^ fbN n - e1N n = a at *
  have hfb : fbN n < 64 := by cases n <;> decide
  have hiff : nI a < nI (fbN n) ↔ a < fbN n := by
    rw [Int32.lt_iff_toInt_lt, nI_int ha31, nI_int (by omega)]; omega
  by_cases h : a < fbN n
  · rw [if_pos (hiff.mpr h), if_pos h, nI_sub (by omega) (by omega), nb_cnt _ (by omega), show (1 : Int64) = lN 1 from rfl, nb_shl _ (by omega), Nat.one_mul]
  · rw [if_neg (fun q => h (hiff.mp q)), if_neg h]; rfl
theorem s1_below {n : Bool} {m : Nat} (h1 : e1N n * 2 ^ fbN n ≤ m) (hm : m < hfN n) : lN m &&& -(sX1_unitOf n (lN m)) = lN (m - m % unN (fbN n) (e1N n) m) := by
  have h63 := hf_le n
  have hfb : fbN n < 64 := by cases n <;> decide
  obtain ⟨j, hj, hu, -, -⟩ := un_pow (F := fbN n) (E1 := e1N n) (m := m)
  rw [s1_unit h1 hm, hu, nb_round (by omega) (by omega)]
theorem c_one {n : Bool} {m : Nat} (hm : m < hfN n) : lN m < psOne n ↔ m < e1N n * 2 ^ fbN n := by
  have h63 := hf_le n
  have := one_lt n
  have := ib_lt n
  rw [one_eq, nb_lt (by omega) (by omega)]
theorem s1_wd {n : Bool} {m : Nat} (hm : m < hfN n) : sX1_wholeDown n (lN m) = lN (wdN (fbN n) (e1N n) m) := by
  unfold sX1_wholeDown wdN
  by_cases h : m < e1N n * 2 ^ fbN n
  · rw [if_pos ((c_one hm).mpr h), if_pos h]; rfl
  · rw [if_neg (fun q => h ((c_one hm).mp q)), if_neg h, s1_below (by omega) hm]
theorem s1_wu {n : Bool} {m : Nat} (hm : m < hfN n) : sX1_wholeUp n (lN m) = lN (wuN (fbN n) (e1N n) m) := by
  have h63 := hf_le n
  unfold sX1_wholeUp wuN
  by_cases h : m < e1N n * 2 ^ fbN n
  · rw [if_pos ((c_one hm).mpr h), if_pos h]
    by_cases h0 : m = 0
    · rw [if_pos h0, if_pos (by rw [h0]; rfl)]; rfl
    · rw [if_neg h0, if_neg (show ¬ lN m = 0 from fun q => h0 ((nb_inj (b := 0) (by omega) (by omega)).mp q)), one_eq]
  · rw [if_neg (fun q => h ((c_one hm).mp q)), if_neg h]
    have hb : sX1_wholeUp_e1 n (lN m) = lN (m - m % unN (fbN n) (e1N n) m) := s1_below (by omega) hm
    have hle : m % unN (fbN n) (e1N n) m ≤ m := Nat.mod_le _ _
    rw [hb, s1_unit (by omega) hm, nb_add]
    by_cases h0 : m % unN (fbN n) (e1N n) m = 0
    · rw [if_pos h0, h0, Nat.sub_zero, if_pos rfl]
    · rw [if_neg h0, if_neg (fun q => h0 (by have := (nb_inj (by omega) (by omega)).mp q; omega))]
theorem odd_bit {F E1 m j : Nat} (hF : 1 ≤ j) (hj : j = F - (m / 2 ^ F - E1)) (hjF : j ≤ F) : (((m - m % 2 ^ j) ||| 2 ^ F) &&& 2 ^ j = 0) ↔ ¬ (2 ^ F + m % 2 ^ F) / 2 ^ j % 2 = 1 := by
  have h2 : 0 < 2 ^ j := Nat.two_pow_pos j
  obtain ⟨a, rfl⟩ : ∃ a, F = j + a := ⟨F - j, by omega⟩
  have e1 : m - m % 2 ^ j = 2 ^ j * (m / 2 ^ j) + 0 := by
    have := Nat.div_add_mod m (2 ^ j); omega
  have e2 : (2 : Nat) ^ (j + a) = 2 ^ j * 2 ^ a := Nat.pow_add 2 j a
  rw [e1, e2, nx_or h2]
  have e3 := nx_and (i := j) (a := m / 2 ^ j ||| 2 ^ a) (b := 1) h2
  rw [Nat.mul_one] at e3
  rw [e3, Nat.mul_add_div h2]
  have e4 : m % (2 ^ j * 2 ^ a) / 2 ^ j = m / 2 ^ j % 2 ^ a := Nat.mod_mul_right_div_self m (2 ^ j) (2 ^ a)
  rw [e4]
  have e5 : (m / 2 ^ j ||| 2 ^ a) &&& 1 = (m / 2 ^ j ||| 2 ^ a) % 2 := Nat.and_two_pow_sub_one_eq_mod _ 1
  rw [e5]
  generalize m / 2 ^ j = b
  have e6 : (b ||| 2 ^ a) % 2 = (2 ^ a + b % 2 ^ a) % 2 := by
    cases a with
    | zero => 
      have := Nat.or_mod_two_pow (a := b) (b := 1) (n := 1)
      simp only [Nat.pow_one, Nat.pow_zero, Nat.mod_one, Nat.add_zero] at *
      rw [this]
      rcases Nat.mod_two_eq_zero_or_one b with h | h <;> rw [h] <;> rfl
    | succ a =>
      have h3 := Nat.or_mod_two_pow (a := b) (b := 2 ^ (a + 1)) (n := 1)
      have h4 : 2 ^ (a + 1) % 2 = 0 := by rw [Nat.pow_succ]; omega
      rw [Nat.pow_one] at h3
      rw [h3, h4, Nat.or_zero, Nat.add_mod, h4, Nat.zero_add, Nat.mod_mod]
      have h5 : b % 2 ^ (a + 1) % 2 = b % 2 := Nat.mod_mod_of_dvd b ⟨2 ^ a, by rw [Nat.pow_succ]; omega⟩
      omega
  rw [e6]
  have h7 : (2 ^ a + b % 2 ^ a) % 2 = 0 ∨ (2 ^ a + b % 2 ^ a) % 2 = 1 := Nat.mod_two_eq_zero_or_one _
  constructor
  · intro h
    rcases Nat.mul_eq_zero.mp h with h | h <;> omega
  · intro h
    have : (2 ^ a + b % 2 ^ a) % 2 = 0 := by omega
    rw [this]; rfl
theorem s1_wn {n : Bool} {m : Nat} (hm : m < hfN n) : sX1_wholeNear n (lN m) = lN (wnN (fbN n) (e1N n) m) := by
  have h63 := hf_le n
  have hib := ib_lt n
  have hone := one_lt n
  have hfb : fbN n < 64 ∧ 1 ≤ fbN n ∧ 2 ^ fbN n < 2 ^ 62 := by cases n <;> decide
  unfold sX1_wholeNear wnN
  by_cases h : m < e1N n * 2 ^ fbN n
  · rw [if_pos ((c_one hm).mpr h), if_pos h]
    have hh : (e1N n - 1) * 2 ^ fbN n < 2 ^ 63 := by cases n <;> decide
    have hc : psHalf n < lN m ↔ (e1N n - 1) * 2 ^ fbN n < m := by rw [half_eq, nb_lt hh (by omega)]
    by_cases h0 : (e1N n - 1) * 2 ^ fbN n < m
    · rw [if_pos (hc.mpr h0), if_pos h0, one_eq]
    · rw [if_neg (fun q => h0 (hc.mp q)), if_neg h0]; rfl
  · rw [if_neg (fun q => h ((c_one hm).mp q)), if_neg h]
    have hb : sX1_wholeNear_e1 n (lN m) = lN (m - m % unN (fbN n) (e1N n) m) := s1_below (by omega) hm
    have hu := s1_unit (n := n) (m := m) (by omega) hm
    obtain ⟨j, hj, hj2, hj3, hj4⟩ := un_pow (F := fbN n) (E1 := e1N n) (m := m)
    have hle : m % unN (fbN n) (e1N n) m ≤ m := Nat.mod_le _ _
    have hujF : unN (fbN n) (e1N n) m ≤ 2 ^ fbN n := by rw [hj2]; exact Nat.pow_le_pow_right (by decide) hj
    have hu0 : 0 < unN (fbN n) (e1N n) m := by rw [hj2]; exact Nat.two_pow_pos _
    have hrl : m % unN (fbN n) (e1N n) m < unN (fbN n) (e1N n) m := Nat.mod_lt _ hu0
    have he2 : sX1_wholeNear_e2 n (lN m) = lN (2 * (m % unN (fbN n) (e1N n) m)) := by
      unfold sX1_wholeNear_e2
      rw [hb, nb_sub (by omega), c_cnt1, nb_shl _ (by decide)]
      exact congrArg lN (by omega)
    have hj3' : 2 * (m % unN (fbN n) (e1N n) m) = unN (fbN n) (e1N n) m → (sX1_wholeNear_j3 n (lN m) = 0 ↔ ¬ (2 ^ fbN n + m % 2 ^ fbN n) / unN (fbN n) (e1N n) m % 2 = 1) := by
      intro h2
      have hj1 : 1 ≤ j := by
        rcases Nat.eq_zero_or_pos j with q | q
        · rw [hj2, q] at h2; omega
        · exact q
      have ha : m / 2 ^ fbN n - e1N n < fbN n := Nat.lt_of_not_le (fun q => by have := hj4 (by omega); omega)
      unfold sX1_wholeNear_j3
      rw [hb, hu, hb_eq, tl_pow, nb_or, nb_and]
      have hbit := odd_bit (F := fbN n) (E1 := e1N n) (m := m) hj1 (hj3 ha) hj
      rw [← hj2] at hbit
      rw [← hbit]
      have hlt : ((m - m % unN (fbN n) (e1N n) m) ||| 2 ^ fbN n) &&& unN (fbN n) (e1N n) m < 2 ^ 64 := Nat.lt_of_le_of_lt Nat.and_le_right (by omega)
      have hz : lN (((m - m % unN (fbN n) (e1N n) m) ||| 2 ^ fbN n) &&& unN (fbN n) (e1N n) m) = 0 ↔ ((m - m % unN (fbN n) (e1N n) m) ||| 2 ^ fbN n) &&& unN (fbN n) (e1N n) m = 0 := nb_inj (b := 0) hlt (by decide)
      by_cases q : ((m - m % unN (fbN n) (e1N n) m) ||| 2 ^ fbN n) &&& unN (fbN n) (e1N n) m = 0
      · rw [if_pos (hz.mpr q)]; simp [q]
      · rw [if_neg (fun w => q (hz.mp w))]; simp [q]
    have hj4' : sX1_wholeNear_j4 n (lN m) = 0 ↔ ¬ (unN (fbN n) (e1N n) m < 2 * (m % unN (fbN n) (e1N n) m) ∨ (2 * (m % unN (fbN n) (e1N n) m) = unN (fbN n) (e1N n) m ∧ (2 ^ fbN n + m % 2 ^ fbN n) / unN (fbN n) (e1N n) m % 2 = 1)) := by
      unfold sX1_wholeNear_j4
      rw [hu, he2]
      have d1 : lN (unN (fbN n) (e1N n) m) < lN (2 * (m % unN (fbN n) (e1N n) m)) ↔ unN (fbN n) (e1N n) m < 2 * (m % unN (fbN n) (e1N n) m) := nb_lt (by omega) (by omega)
      have d2 : lN (2 * (m % unN (fbN n) (e1N n) m)) = lN (unN (fbN n) (e1N n) m) ↔ 2 * (m % unN (fbN n) (e1N n) m) = unN (fbN n) (e1N n) m := nb_inj (by omega) (by omega)
      by_cases c1 : unN (fbN n) (e1N n) m < 2 * (m % unN (fbN n) (e1N n) m)
      · rw [if_pos (d1.mpr c1)]; simp [c1]
      · rw [if_neg (fun q => c1 (d1.mp q))]
        by_cases c2 : 2 * (m % unN (fbN n) (e1N n) m) = unN (fbN n) (e1N n) m
        · rw [if_pos (d2.mpr c2)]
          have c3 := hj3' c2
          by_cases c4 : (2 ^ fbN n + m % 2 ^ fbN n) / unN (fbN n) (e1N n) m % 2 = 1
          · rw [if_neg (fun q => (c3.mp q) c4)]
            constructor
            · intro q; exact absurd q (by decide)
            · intro q; exact absurd (Or.inr ⟨c2, c4⟩) q
          · rw [if_pos (c3.mpr c4)]
            exact ⟨fun _ q => q.elim c1 (fun w => c4 w.2), fun _ => rfl⟩
        · rw [if_neg (fun q => c2 (d2.mp q))]
          exact ⟨fun _ q => q.elim c1 (fun w => c2 w.1), fun _ => rfl⟩
    rw [hb, hu, nb_add]
    by_cases hc : (unN (fbN n) (e1N n) m < 2 * (m % unN (fbN n) (e1N n) m) ∨ (2 * (m % unN (fbN n) (e1N n) m) = unN (fbN n) (e1N n) m ∧ (2 ^ fbN n + m % 2 ^ fbN n) / unN (fbN n) (e1N n) m % 2 = 1))
    · rw [if_pos hc, if_neg (fun q => (hj4'.mp q) hc)]
    · rw [if_neg hc, if_pos (hj4'.mpr hc)]
