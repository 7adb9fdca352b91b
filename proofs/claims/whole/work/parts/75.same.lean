/-! The model's and the component's reckoning are the same: signs, sizes, ranks. -/
theorem mk_size (n : Bool) (v : Int64) : (bif n then v &&& (2147483647 : Int64) else v &&& (9223372036854775807 : Int64)) = sX1_size n v := by
  unfold sX1_size
  cases n
  · simp only [cond_false]; rw [show psSB false ^^^ (-1 : Int64) = 9223372036854775807 by decide]
  · simp only [cond_true]; rw [show psSB true ^^^ (-1 : Int64) = 2147483647 by decide]
theorem m_rank (n : Bool) (v : Int64) : sX5_rank (md n) v = sX1_rank n v := by
  have h := mk_size n v
  unfold sX5_rank sX1_rank
  rw [if_pos (md_whole n), ← h]
  cases n
  · simp only [cond_false, show ¬ md false = 2 by decide, if_false]
  · simp only [cond_true, show md true = 2 by decide, if_true]
theorem m_greater (n : Bool) (v w : Int64) : sX5_greater (md n) v w = sX2_greater_P n v w := by unfold sX5_greater sX2_greater_P; rw [m_rank, m_rank]
theorem m_lesser (n : Bool) (v w : Int64) : sX5_lesser (md n) v w = sX2_lesser_P n v w := by unfold sX5_lesser sX2_lesser_P; rw [m_rank, m_rank]
theorem m_isInf (n : Bool) (v : Int64) : sX5_isInfinite (md n) v = sX1_isInfinite n v := by
  have h := mk_size n v
  unfold sX5_isInfinite sX1_isInfinite
  rw [← h]
  cases n
  · simp only [cond_false, show ¬ md false = 2 by decide, if_false]; rfl
  · simp only [cond_true, show md true = 2 by decide, if_true]; rfl
theorem m_turned {n s : Bool} {m : Nat} (hm : m < hfN n) : sX5_turned (md n) (cdL n s m) = cdL n (!s) m := by
  have h := s1_turn (s := s) hm
  unfold sX5_turned
  rw [if_pos (md_whole n)]
  cases n
  · rw [if_neg (by decide)]; exact h
  · rw [if_pos (by decide), Int32.toInt64_xor, cd_ext hm]; exact h
theorem m_size {n s : Bool} {m : Nat} (hm : m < hfN n) : sX5_size (md n) (cdL n s m) = lN m := by
  unfold sX5_size
  cases s
  · rw [if_neg (fun h => Bool.noConfusion ((cd_neg hm).mp h))]; rfl
  · rw [if_pos ((cd_neg hm).mpr rfl), m_turned hm]; rfl
theorem m_isZero (n : Bool) (v : Int64) : sX5_isZero (md n) v = if sX1_size n v = 0 then 1 else 0 := by
  have h := mk_size n v
  unfold sX5_isZero
  rw [if_pos (md_whole n), ← h]
  cases n
  · simp only [cond_false, show ¬ md false = 2 by decide, if_false]
  · simp only [cond_true, show md true = 2 by decide, if_true]
theorem m_sign {n s : Bool} {m : Nat} (hm : m < hfN n) : sX5_signOf (md n) (cdL n s m) = sX1_sign n (cdL n s m) := by
  have h1 : sX5_signOf_j1 (md n) (cdL n s m) = psOne n := by
    unfold sX5_signOf_j1
    rw [if_pos (md_whole n)]
    cases n
    · rw [if_neg (by decide)]; rfl
    · rw [if_pos (by decide)]; rfl
  have ho : e1N n * 2 ^ fbN n < hfN n := by have := one_lt n; have := ib_lt n; omega
  have h63 := hf_le n
  unfold sX5_signOf sX1_sign sX1_sign_j1
  rw [m_isZero, h1, if_pos (md_whole n)]
  by_cases h0 : sX1_size n (cdL n s m) = 0
  · rw [if_pos h0, if_neg (by decide), if_pos h0]
  · rw [if_neg h0, if_pos rfl, if_neg h0, one_eq, s1_wsign ho]
    cases s
    · rw [if_neg (fun h => Bool.noConfusion ((cd_neg hm).mp h)), if_neg (fun h => Bool.noConfusion ((cd_neg hm).mp h))]; rfl
    · rw [if_pos ((cd_neg hm).mpr rfl), if_pos ((cd_neg hm).mpr rfl), ← cd_lN (n := n), m_turned ho]; rfl
theorem m_like {n s t : Bool} {m k : Nat} (hm : m < hfN n) (hk : k < hfN n) : (if cdL n t k < 0 then sX5_turned (md n) (sX5_size (md n) (cdL n s m)) else sX5_size (md n) (cdL n s m)) = sX1_like n (cdL n s m) (cdL n t k) := by
  unfold sX1_like sX1_like_j1
  rw [m_size hm, s1_size hm, s1_wsign hm]
  cases t
  · rw [if_neg (fun h => Bool.noConfusion ((cd_neg hk).mp h)), if_neg (fun h => Bool.noConfusion ((cd_neg hk).mp h))]; rfl
  · rw [if_pos ((cd_neg hk).mpr rfl), if_pos ((cd_neg hk).mpr rfl), ← cd_lN (n := n), m_turned hm]; rfl
theorem m_apart {n s t : Bool} {m k : Nat} (hm : m < hfN n) (hk : k < hfN n) : sX5_areApart (md n) (cdL n s m) (cdL n t k) = 0 ↔ ¬ sX1_canMeet n (cdL n s m) (cdL n t k) = 0 := by
  unfold sX5_areApart sX1_canMeet sX5_isNegative
  rw [if_pos (md_whole n), m_isInf, m_isInf]
  by_cases h1 : sX1_isInfinite n (cdL n s m) = 0
  · rw [if_pos h1, if_pos h1]; decide
  · rw [if_neg h1, if_neg h1]
    by_cases h2 : sX1_isInfinite n (cdL n t k) = 0
    · rw [if_pos h2, if_pos h2]; decide
    · rw [if_neg h2, if_neg h2]
      have e1 : m = ibN n := Decidable.byContradiction (fun q => h1 ((s1_inf hm).mpr q))
      have e2 : k = ibN n := Decidable.byContradiction (fun q => h2 ((s1_inf hk).mpr q))
      simp only [cd_neg hm, cd_neg hk, cd_inj hm hk]
      subst e1; subst e2
      cases s <;> cases t <;> simp
/-- every number of the sort, not-a-number or not, has a code -/
theorem cd_all (n : Bool) (v : Int64) : ∃ s m, m < hfN n ∧ sX2_fromBits n v = cdL n s m := by
  have h1 : ∀ x : Int64, (∃ s m, m < hfN false ∧ x = cdL false s m) := fun x => by
    have hx : x = lN x.toBitVec.toNat := nb_ext (by rw [nb_bv]; simp)
    have hlt : x.toBitVec.toNat < 2 ^ 64 := x.toBitVec.isLt
    rcases Nat.lt_or_ge x.toBitVec.toNat (2 ^ 63) with h | h
    · exact ⟨false, _, h, hx⟩
    · refine ⟨true, x.toBitVec.toNat - 2 ^ 63, by simp only [hfN, cond_false]; omega, ?_⟩
      unfold cdL
      rw [show x.toBitVec.toNat - 2 ^ 63 + (bif true then cdH false else 0) = x.toBitVec.toNat by simp only [cdH, cond_true, cond_false]; omega]
      exact hx
  have h2 : ∀ x : Int32, (∃ s m, m < hfN true ∧ x.toInt64 = cdL true s m) := fun x => by
    have hb := x.toInt_lt
    have hb2 := x.le_toInt
    by_cases h : 0 ≤ x.toInt
    · refine ⟨false, x.toInt.toNat, by simp only [hfN, cond_true]; omega, ?_⟩
      apply Int64.toInt_inj.mp
      rw [Int32.toInt_toInt64, cd_int (by simp only [hfN, cond_true]; omega)]
      simp only [cond_false]; omega
    · refine ⟨true, (x.toInt + 2147483648).toNat, by simp only [hfN, cond_true]; omega, ?_⟩
      apply Int64.toInt_inj.mp
      rw [Int32.toInt_toInt64, cd_int (by simp only [hfN, cond_true]; omega)]
      simp only [cond_true, hfN]; omega
  unfold sX2_fromBits
  cases n
  · rw [if_pos (by decide)]; exact h1 v
  · rw [if_neg (by decide)]; exact h2 _
theorem m_isNone {n s : Bool} {m : Nat} (hm : m < hfN n) : sX5_isNone (md n) (cdL n s m) = 0 ↔ m ≤ ibN n := by
  have key : ∀ (F M : Nat) (a : Nat), (2 ^ F * (a / 2 ^ F) + a % 2 ^ F) &&& (2 ^ F * M) = 2 ^ F * ((a / 2 ^ F) &&& M) := fun F M a => nx_and (Nat.mod_lt _ (Nat.two_pow_pos F))
  unfold sX5_isNone
  cases n
  · rw [if_neg (by decide), if_pos (by decide)]
    have hc : cdL false s m &&& (9218868437227405312 : Int64) = lN (2 ^ 52 * (m / 2 ^ 52)) := by
      unfold cdL
      rw [show (9218868437227405312 : Int64) = lN (2 ^ 52 * 2047) from rfl, nb_and]
      generalize ha : (m + bif s then cdH false else 0) = a
      have := key 52 2047 a
      rw [Nat.div_add_mod] at this
      rw [this, show (2047 : Nat) = 2 ^ 11 - 1 from rfl, Nat.and_two_pow_sub_one_eq_mod]
      refine congrArg lN ?_
      congr 1
      subst ha
      cases s <;> simp only [cond_true, cond_false, cdH, hfN] at * <;> omega
    have hd : cdL false s m &&& (4503599627370495 : Int64) = lN (m % 2 ^ 52) := by
      unfold cdL
      rw [show (4503599627370495 : Int64) = lN (2 ^ 52 - 1) from rfl, nb_mask]
      refine congrArg lN ?_
      cases s <;> simp only [cond_true, cond_false, cdH, hfN] at * <;> omega
    rw [hc, hd]
    simp only [hfN, cond_false, ibN] at *
    have d1 : lN (2 ^ 52 * (m / 2 ^ 52)) = (9218868437227405312 : Int64) ↔ 2 ^ 52 * (m / 2 ^ 52) = 9218868437227405312 := nb_inj (b := 9218868437227405312) (by omega) (by decide)
    have d2 : lN (m % 2 ^ 52) = (0 : Int64) ↔ m % 2 ^ 52 = 0 := nb_inj (b := 0) (by omega) (by decide)
    by_cases c1 : 2 ^ 52 * (m / 2 ^ 52) = 9218868437227405312
    · rw [if_pos (d1.mpr c1)]
      by_cases c2 : m % 2 ^ 52 = 0
      · rw [if_pos (d2.mpr c2)]; simp; omega
      · rw [if_neg (fun h => c2 (d2.mp h))]; simp; omega
    · rw [if_neg (fun h => c1 (d1.mp h))]; simp; omega
  · rw [if_pos (by decide)]
    have hc : cdL true s m &&& (2139095040 : Int64) = lN (2 ^ 23 * (m / 2 ^ 23)) := by
      unfold cdL
      rw [show (2139095040 : Int64) = lN (2 ^ 23 * 255) from rfl, nb_and]
      generalize ha : (m + bif s then cdH true else 0) = a
      have := key 23 255 a
      rw [Nat.div_add_mod] at this
      rw [this, show (255 : Nat) = 2 ^ 8 - 1 from rfl, Nat.and_two_pow_sub_one_eq_mod]
      refine congrArg lN ?_
      congr 1
      subst ha
      cases s <;> simp only [cond_true, cond_false, cdH, hfN] at * <;> omega
    have hd : cdL true s m &&& (8388607 : Int64) = lN (m % 2 ^ 23) := by
      unfold cdL
      rw [show (8388607 : Int64) = lN (2 ^ 23 - 1) from rfl, nb_mask]
      refine congrArg lN ?_
      cases s <;> simp only [cond_true, cond_false, cdH, hfN] at * <;> omega
    rw [hc, hd]
    simp only [hfN, cond_true, ibN] at *
    have d1 : lN (2 ^ 23 * (m / 2 ^ 23)) = (2139095040 : Int64) ↔ 2 ^ 23 * (m / 2 ^ 23) = 2139095040 := nb_inj (b := 2139095040) (by omega) (by decide)
    have d2 : lN (m % 2 ^ 23) = (0 : Int64) ↔ m % 2 ^ 23 = 0 := nb_inj (b := 0) (by omega) (by decide)
    by_cases c1 : 2 ^ 23 * (m / 2 ^ 23) = 2139095040
    · rw [if_pos (d1.mpr c1)]
      by_cases c2 : m % 2 ^ 23 = 0
      · rw [if_pos (d2.mpr c2)]; simp; omega
      · rw [if_neg (fun h => c2 (d2.mp h))]; simp; omega
    · rw [if_neg (fun h => c1 (d1.mp h))]; simp; omega
theorem s1_isNumber {n s : Bool} {m : Nat} (hm : m < hfN n) : sX1_isNumber n (cdL n s m) = 0 ↔ ¬ m ≤ ibN n := by
  have h63 := hf_le n
  have hib := ib_lt n
  unfold sX1_isNumber
  rw [s1_size hm, inf_eq]
  have d : lN (ibN n) < lN m ↔ ibN n < m := nb_lt (by omega) (by omega)
  by_cases h : ibN n < m
  · rw [if_pos (d.mpr h)]; simp; omega
  · rw [if_neg (fun q => h (d.mp q))]; simp; omega
