/-! The component's reckoning on codes. -/
def tlN (n : Bool) : Nat := bif n then 8388608 else 4503599627370496
def fbN (n : Bool) : Nat := bif n then 23 else 52
def eiN (n : Bool) : Nat := bif n then 255 else 2047
def ibN (n : Bool) : Nat := bif n then 2139095040 else 9218868437227405312
theorem tl_pow (n : Bool) : tlN n = 2 ^ fbN n := by cases n <;> rfl
theorem fb_cnt (n : Bool) : (psFB n).toInt64 &&& 63 = lN (fbN n) := by cases n <;> decide
theorem c_cnt3 : (3 : Int32).toInt64 &&& 63 = lN 3 := by decide
theorem c_cnt1 : (1 : Int32).toInt64 &&& 63 = lN 1 := by decide
theorem hb_eq (n : Bool) : psHB n = lN (tlN n) := by cases n <;> decide
theorem inf_eq (n : Bool) : psInf n = lN (ibN n) := by cases n <;> decide
theorem ei_eq (n : Bool) : psEI n = nI (eiN n) := by cases n <;> decide
theorem ib_lt (n : Bool) : ibN n < hfN n := by cases n <;> decide
theorem ib_eq (n : Bool) : ibN n = eiN n * tlN n := by cases n <;> decide
theorem hf_le (n : Bool) : hfN n ≤ 2 ^ 63 := by cases n <;> decide
theorem tl_two (n : Bool) : 2 ≤ tlN n ∧ 32 * tlN n ≤ 2 ^ 58 := by cases n <;> decide
theorem nI_int {a : Nat} (h : a < 2 ^ 31) : (nI a).toInt = (a : Int) := by
  show (BitVec.ofNat 32 a).toInt = _
  rw [BitVec.toInt_eq_toNat_cond, BitVec.toNat_ofNat, Nat.mod_eq_of_lt (by omega), if_pos (by omega)]
theorem nI_of_lN {a : Nat} (h : a < 2 ^ 31) : (lN a).toInt32 = nI a := by
  apply Int32.toInt_inj.mp
  rw [nI_int h, Int64.toInt_toInt32, nb_int (by omega)]
  rw [Int.bmod_def]
  omega
theorem s1_exp {n s : Bool} {m : Nat} (hm : m < hfN n) : sX1_exponent n (cdL n s m) = nI (exN (tlN n) m) := by
  have h1 : sX1_exponent_e1 n (cdL n s m) = nI (m / tlN n) := by
    unfold sX1_exponent_e1
    have := hf_le n
    rw [s1_size hm, fb_cnt, nb_shr (by omega) (by cases n <;> decide), ← tl_pow, nI_of_lN]
    cases n <;> simp only [cond_true, cond_false, tlN, hfN] at * <;> omega
  unfold sX1_exponent
  rw [h1]
  have hlt : m / tlN n < 2 ^ 31 := by cases n <;> simp only [cond_true, cond_false, tlN, hfN] at * <;> omega
  unfold exN
  clear h1
  generalize m / tlN n = x at *
  by_cases h0 : x = 0
  · subst h0; decide
  · rw [if_neg, Nat.max_eq_right (by omega)]
    intro h
    have := congrArg Int32.toInt h
    rw [nI_int hlt] at this
    simp at this
    omega
theorem s1_sig {n s : Bool} {m : Nat} (hm : m < hfN n) : sX1_significand n (cdL n s m) = lN (sgN (tlN n) m) := by
  have h1 : sX1_significand_e1 n (cdL n s m) = lN (m % tlN n) := by
    unfold sX1_significand_e1 cdL
    have : psHB n - 1 = lN (2 ^ fbN n - 1) := by cases n <;> decide
    rw [this, nb_mask, ← tl_pow]
    cases n <;> cases s <;> simp only [cond_true, cond_false, tlN, hfN, cdH] at * <;> exact congrArg lN (by omega)
  unfold sX1_significand sgN
  have h2 := hf_le n
  have h3 : tlN n < 2 ^ 63 := by cases n <;> decide
  rw [h1, s1_size hm, hb_eq]
  by_cases h0 : m < tlN n
  · rw [if_pos ((nb_lt (by omega) h3).mpr h0), if_pos h0, Nat.mod_eq_of_lt h0]
  · rw [if_neg (fun h => h0 ((nb_lt (by omega) h3).mp h)), if_neg h0, nb_or]
    have h4 : m % tlN n < 2 ^ fbN n := by rw [← tl_pow]; exact Nat.mod_lt _ (by have := (tl_two n).1; omega)
    have h5 := nx_or (i := fbN n) (a := 0) (b := 1) h4
    rw [← tl_pow] at h5
    simp only [Nat.mul_zero, Nat.zero_add, Nat.mul_one, Nat.zero_or] at h5
    rw [h5]
theorem nb_or1 (q : Nat) : lN q ||| (1 : Int64) = lN (2 * (q / 2) + 1) := by
  rw [show (1 : Int64) = lN 1 from rfl, nb_or]
  congr 1
  apply Nat.eq_of_testBit_eq
  intro j
  rw [Nat.testBit_or]
  cases j with
  | zero => simp [Nat.testBit_zero]
  | succ j =>
    rw [Nat.testBit_succ, Nat.testBit_succ, Nat.testBit_succ]
    rw [show (2 * (q / 2) + 1) / 2 = q / 2 by omega, show 1 / 2 = 0 by decide]
    simp
theorem s1_shd {a k : Nat} (ha : a < 2 ^ 63) (hk : k < 2 ^ 31) : sX1_shiftedDown (lN a) (nI k) = lN (shd a k) := by
  unfold sX1_shiftedDown shd
  have hlt : nI k < (60 : Int32) ↔ k < 60 := by
    rw [Int32.lt_iff_toInt_lt, nI_int hk, show (60 : Int32).toInt = 60 from rfl]; omega
  by_cases h : k < 60
  · rw [if_pos (hlt.mpr h), if_pos h, nb_cnt k (by omega), nb_shr ha (by omega), nb_shl _ (by omega)]
    have hle : a / 2 ^ k * 2 ^ k ≤ a := Nat.div_mul_le_self _ _
    by_cases h1 : a / 2 ^ k * 2 ^ k = a
    · rw [if_pos h1, if_pos (by rw [h1])]
    · rw [if_neg h1, if_neg (fun h2 => h1 ((nb_inj (by omega) (by omega)).mp h2)), nb_or1]
  · rw [if_neg (fun h2 => h (hlt.mp h2)), if_neg h]
    by_cases h1 : a = 0
    · rw [if_pos h1, if_pos (by rw [h1]; rfl)]; rfl
    · rw [if_neg h1, if_neg (show ¬ lN a = 0 from fun h2 => h1 ((nb_inj (b := 0) (by omega) (by omega)).mp h2))]; rfl

theorem nd_loop {n : Bool} : ∀ (k m : Nat) (e : Int32), m < 16 * tlN n → -100000 ≤ e.toInt → e.toInt ≤ 100000 → ∃ e' : Int32, rndLoop (lN (8 * tlN n)) k (lN m) e = (lN (ndLoop (8 * tlN n) k m e.toInt).1, e') ∧ e'.toInt = (ndLoop (8 * tlN n) k m e.toInt).2 ∧ e'.toInt ≤ e.toInt ∧ (e.toInt ≤ e'.toInt ∨ 1 ≤ e'.toInt) ∧ (ndLoop (8 * tlN n) k m e.toInt).1 < 16 * tlN n := by
  have hT := (tl_two n).2
  intro k
  induction k with
  | zero => intro m e hm h1 h2; exact ⟨e, rfl, rfl, Int.le_refl _, Or.inl (Int.le_refl _), hm⟩
  | succ k ih =>
    intro m e hm h1 h2
    rw [rndLoop, ndLoop]
    have c1 : lN m < lN (8 * tlN n) ↔ m < 8 * tlN n := nb_lt (by omega) (by omega)
    have c2 : (1 : Int32) < e ↔ 1 < e.toInt := Int32.lt_iff_toInt_lt
    by_cases a1 : m < 8 * tlN n
    · rw [if_pos (c1.mpr a1), if_pos a1]
      by_cases a2 : 1 < e.toInt
      · rw [if_pos (c2.mpr a2), if_pos a2, c_cnt1, nb_shl _ (by decide)]
        have he : (e + (-1)).toInt = e.toInt - 1 := by
          rw [Int32.toInt_add, show (-1 : Int32).toInt = -1 from rfl, Int.bmod_def]
          omega
        obtain ⟨e', g1, g2, g3, g4, g5⟩ := ih (2 * m) (e + (-1)) (by omega) (by omega) (by omega)
        rw [show m * 2 ^ 1 = 2 * m by omega]
        rw [he] at g1 g2 g3 g4 g5
        exact ⟨e', g1, g2, by omega, by omega, g5⟩
      · rw [if_neg (fun h => a2 (c2.mp h)), if_neg a2]
        exact ⟨e, rfl, rfl, Int.le_refl _, Or.inl (Int.le_refl _), hm⟩
    · rw [if_neg (fun h => a1 (c1.mp h)), if_neg a1]
      exact ⟨e, rfl, rfl, Int.le_refl _, Or.inl (Int.le_refl _), hm⟩
theorem near8 (m : Nat) : FP.Core.nearest m 8 = if 4 < m % 8 then m / 8 + 1 else if m % 8 = 4 then (if m / 8 % 2 = 1 then m / 8 + 1 else m / 8) else m / 8 := by
  unfold FP.Core.nearest
  (repeat' split) <;> omega
set_option maxHeartbeats 4000000 in
theorem s1_rounded {n : Bool} {m : Nat} {x b : Int32} (hm : m < 32 * tlN n) (h1 : -90000 ≤ x.toInt) (h2 : x.toInt ≤ 90000) : sX1_rounded n (lN m) x b = sX1_withSign n (lN (rdN (tlN n) (eiN n) m x.toInt)) b := by
  have hT := (tl_two n).2
  have hT2 := (tl_two n).1
  have he1 : sX1_rounded_e1 n (lN m) x b = lN (8 * tlN n) := by
    unfold sX1_rounded_e1
    rw [hb_eq, c_cnt3, nb_shl _ (by decide)]
    exact congrArg lN (by omega)
  -- the first step
  have hc : lN m < (sX1_rounded_e1 n (lN m) x b) <<< ((1 : Int32).toInt64 &&& 63) ↔ m < 16 * tlN n := by
    rw [he1, c_cnt1, nb_shl _ (by decide), nb_lt (by omega) (by omega)]; omega
  obtain ⟨m1, e1, hr, g1, g2, g3, g4⟩ : ∃ (m1 : Nat) (e1 : Int32), rd1 (tlN n) m x.toInt = (m1, e1.toInt) ∧ sX1_rounded_j4 n (lN m) x b = lN m1 ∧ sX1_rounded_j3 n (lN m) x b = e1 ∧ m1 < 16 * tlN n ∧ (-90000 ≤ e1.toInt ∧ e1.toInt ≤ 90001) := by
    unfold rd1 sX1_rounded_j4 sX1_rounded_j3
    by_cases h0 : m < 16 * tlN n
    · rw [if_pos h0, if_pos (hc.mpr h0), if_pos (hc.mpr h0)]
      exact ⟨m, x, rfl, rfl, rfl, h0, by omega, by omega⟩
    · rw [if_neg h0, if_neg (fun h => h0 (hc.mp h)), if_neg (fun h => h0 (hc.mp h))]
      have he : (x + 1).toInt = x.toInt + 1 := by
        rw [Int32.toInt_add, show (1 : Int32).toInt = 1 from rfl, Int.bmod_def]; omega
      refine ⟨shd m 1, x + 1, by rw [he], ?_, rfl, shd_lt (by omega) (by decide) hm, by omega, by omega⟩
      unfold sX1_rounded_e2
      exact s1_shd (k := 1) (by omega) (by decide)
  -- the loop
  obtain ⟨e2, l1, l2, l3, l4, l5⟩ := nd_loop (n := n) 60 m1 e1 g3 (by omega) (by omega)
  have hrd2 : rd2 (tlN n) m x.toInt = ndLoop (8 * tlN n) 60 m1 e1.toInt := by unfold rd2; rw [hr]
  obtain ⟨M, hM⟩ : ∃ M, (ndLoop (8 * tlN n) 60 m1 e1.toInt).1 = M := ⟨_, rfl⟩
  have hnd : ndLoop (8 * tlN n) 60 m1 e1.toInt = (M, e2.toInt) := by rw [← hM, l2]
  rw [hM] at l1 l5
  have j5 : sX1_rounded_j5 n (lN m) x b = lN M := by unfold sX1_rounded_j5; rw [g1, g2, he1, l1]
  have j6 : sX1_rounded_j6 n (lN m) x b = e2 := by unfold sX1_rounded_j6; rw [g1, g2, he1, l1]
  have c3 : e2 < (1 : Int32) ↔ e2.toInt < 1 := Int32.lt_iff_toInt_lt
  -- the last shift
  obtain ⟨m3, e3, hr3, k1, k2, k3, k4⟩ : ∃ (m3 : Nat) (e3 : Int32), rd3 (M, e2.toInt) = (m3, e3.toInt) ∧ sX1_rounded_j9 n (lN m) x b = lN m3 ∧ sX1_rounded_j8 n (lN m) x b = e3 ∧ m3 < 16 * tlN n ∧ (1 ≤ e3.toInt ∧ e3.toInt ≤ 90001) := by
    unfold rd3 sX1_rounded_j9 sX1_rounded_j8
    rw [j6, j5]
    by_cases h0 : e2.toInt < 1
    · rw [if_pos (c3.mpr h0), if_pos (c3.mpr h0), if_pos h0]
      refine ⟨shd M (1 - e2.toInt).toNat, 1, rfl, ?_, rfl, shd_lt (by omega) (by omega) (by omega), by decide, by decide⟩
      unfold sX1_rounded_e7
      rw [j6, j5]
      have he : (1 : Int32) - e2 = nI (1 - e2.toInt).toNat := by
        apply Int32.toInt_inj.mp
        rw [nI_int (by omega), Int32.toInt_sub, show (1 : Int32).toInt = 1 from rfl, Int.bmod_def]
        omega
      rw [he]
      exact s1_shd (by omega) (by omega)
    · rw [if_neg (fun h => h0 (c3.mp h)), if_neg (fun h => h0 (c3.mp h)), if_neg h0]
      exact ⟨M, e2, rfl, rfl, rfl, l5, by omega, by omega⟩
  have e10 : sX1_rounded_e10 n (lN m) x b = lN (m3 / 8) := by
    unfold sX1_rounded_e10
    rw [k1, c_cnt3, nb_shr (by omega) (by decide)]
  have e11 : sX1_rounded_e11 n (lN m) x b = lN (m3 % 8) := by
    unfold sX1_rounded_e11
    rw [k1, show (7 : Int64) = lN (2 ^ 3 - 1) from rfl, nb_mask]
  have j13 : sX1_rounded_j13 n (lN m) x b = lN (FP.Core.nearest m3 8) := by
    unfold sX1_rounded_j13 sX1_rounded_e12
    rw [e10, e11, near8, show (4 : Int64) = lN 4 from rfl, show (1 : Int64) = lN 1 from rfl, nb_add]
    have d1 : lN 4 < lN (m3 % 8) ↔ 4 < m3 % 8 := nb_lt (by omega) (by omega)
    have d2 : lN (m3 % 8) = lN 4 ↔ m3 % 8 = 4 := nb_inj (by omega) (by omega)
    have d3 : lN (m3 / 8) &&& lN 1 = lN 1 ↔ m3 / 8 % 2 = 1 := by
      have := nb_mask (m3 / 8) 1
      rw [show 2 ^ 1 - 1 = 1 from rfl, show 2 ^ 1 = 2 from rfl] at this
      rw [this, nb_inj (by omega) (by omega)]
    simp only [d1, d2, d3]
    (repeat' split) <;> rfl
  unfold rdN
  rw [hrd2, hnd, hr3]
  unfold sX1_rounded rd4
  rw [k2, j13, ei_eq, inf_eq, ib_eq]
  have hei : eiN n < 2 ^ 31 := by cases n <;> decide
  have d4 : e3 < nI (eiN n) ↔ e3.toInt < (eiN n : Int) := by rw [Int32.lt_iff_toInt_lt, nI_int hei]
  by_cases h0 : e3.toInt < (eiN n : Int)
  · rw [if_pos (d4.mpr h0), if_pos h0]
    congr 1
    have he : e3 - (1 : Int32) = nI (e3.toInt - 1).toNat := by
      apply Int32.toInt_inj.mp
      rw [nI_int (by omega), Int32.toInt_sub, show (1 : Int32).toInt = 1 from rfl, Int.bmod_def]
      omega
    have hl : ∀ a : Nat, a < 2 ^ 31 → (nI a).toInt64 = lN a := fun a ha => by
      apply Int64.toInt_inj.mp
      rw [Int32.toInt_toInt64, nI_int ha, nb_int (by omega)]
    rw [he, fb_cnt, hl _ (by omega), nb_shl _ (by cases n <;> decide), ← tl_pow, nb_add]
  · rw [if_neg (fun h => h0 (d4.mp h)), if_neg h0]
