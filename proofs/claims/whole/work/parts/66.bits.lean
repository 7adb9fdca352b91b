/-! Whole numbers in 64 bits. -/
theorem nb_ext {a b : Int64} (h : a.toBitVec = b.toBitVec) : a = b := Int64.toBitVec_inj.mp h
theorem nb_bv (a : Nat) : (lN a).toBitVec = BitVec.ofNat 64 a := rfl
theorem nb_and (a b : Nat) : lN a &&& lN b = lN (a &&& b) := nb_ext (by rw [Int64.toBitVec_and, nb_bv, nb_bv, nb_bv, BitVec.ofNat_and])
theorem nb_or (a b : Nat) : lN a ||| lN b = lN (a ||| b) := nb_ext (by rw [Int64.toBitVec_or, nb_bv, nb_bv, nb_bv, BitVec.ofNat_or])
theorem nb_xor (a b : Nat) : lN a ^^^ lN b = lN (a ^^^ b) := nb_ext (by rw [Int64.toBitVec_xor, nb_bv, nb_bv, nb_bv, BitVec.ofNat_xor])
theorem nb_add (a b : Nat) : lN a + lN b = lN (a + b) := nb_ext (by rw [Int64.toBitVec_add, nb_bv, nb_bv, nb_bv, BitVec.ofNat_add])
theorem nb_sub {a b : Nat} (h : b ≤ a) : lN a - lN b = lN (a - b) := by
  obtain ⟨c, rfl⟩ : ∃ c, a = c + b := ⟨a - b, by omega⟩
  rw [← nb_add, Nat.add_sub_cancel]
  apply nb_ext
  rw [Int64.toBitVec_sub, Int64.toBitVec_add, BitVec.add_sub_cancel]
theorem nb_int {a : Nat} (h : a < 2 ^ 63) : (lN a).toInt = (a : Int) := lg_ofNat_toInt h
theorem nb_toN {a : Nat} (h : a < 2 ^ 64) : (lN a).toBitVec.toNat = a := Nat.mod_eq_of_lt h
theorem nb_intn {a : Nat} (h1 : 2 ^ 63 ≤ a) (h2 : a < 2 ^ 64) : (lN a).toInt = (a : Int) - 2 ^ 64 := by
  show (lN a).toBitVec.toInt = _
  rw [BitVec.toInt_eq_toNat_cond, nb_toN h2, if_neg (by omega)]
  rfl
theorem nb_mask (a k : Nat) : lN a &&& lN (2 ^ k - 1) = lN (a % 2 ^ k) := by rw [nb_and, Nat.and_two_pow_sub_one_eq_mod]
theorem nb_cnt : ∀ k, k < 64 → (nI k).toInt64 &&& 63 = lN k := by decide +kernel
theorem nb_sm : ∀ k, k < 64 → ((BitVec.ofNat 64 k).smod 64).toNat = k := by decide +kernel
theorem nb_shl (a : Nat) {k : Nat} (hk : k < 64) : lN a <<< lN k = lN (a * 2 ^ k) := by
  apply nb_ext
  apply BitVec.eq_of_toNat_eq
  rw [Int64.toBitVec_shiftLeft, nb_bv, nb_bv, nb_bv, BitVec.shiftLeft_eq', nb_sm k hk, BitVec.toNat_shiftLeft, BitVec.toNat_ofNat, BitVec.toNat_ofNat, Nat.shiftLeft_eq, Nat.mul_mod, Nat.mod_mod, ← Nat.mul_mod]
theorem nb_shr {a k : Nat} (ha : a < 2 ^ 63) (hk : k < 64) : lN a >>> lN k = lN (a / 2 ^ k) := by
  apply nb_ext
  apply BitVec.eq_of_toNat_eq
  have hm : (BitVec.ofNat 64 a).msb = false := by
    rw [BitVec.msb_eq_false_iff_two_mul_lt, BitVec.toNat_ofNat]
    omega
  have hd : a / 2 ^ k ≤ a := Nat.div_le_self _ _
  rw [Int64.toBitVec_shiftRight, nb_bv, nb_bv, nb_bv]
  show (BitVec.sshiftRight (BitVec.ofNat 64 a) ((BitVec.ofNat 64 k).smod 64).toNat).toNat = _
  rw [nb_sm k hk, BitVec.toNat_sshiftRight_of_msb_false hm, BitVec.toNat_ofNat, BitVec.toNat_ofNat, Nat.shiftRight_eq_div_pow, Nat.mod_eq_of_lt (by omega), Nat.mod_eq_of_lt (by omega)]
theorem nb_lt {a b : Nat} (ha : a < 2 ^ 63) (hb : b < 2 ^ 63) : lN a < lN b ↔ a < b := by
  rw [Int64.lt_iff_toInt_lt, nb_int ha, nb_int hb]; omega
theorem nb_inj {a b : Nat} (ha : a < 2 ^ 64) (hb : b < 2 ^ 64) : lN a = lN b ↔ a = b := by
  constructor
  · intro h
    have := congrArg (fun x : Int64 => x.toBitVec.toNat) h
    simp only [nb_toN ha, nb_toN hb] at this
    exact this
  · rintro rfl; rfl
theorem nx_xor {i a b m : Nat} (hm : m < 2 ^ i) : (2 ^ i * a + m) ^^^ (2 ^ i * b) = 2 ^ i * (a ^^^ b) + m := by
  apply Nat.eq_of_testBit_eq
  intro j
  have h0 : 2 ^ i * b = 2 ^ i * b + 0 := rfl
  rw [h0, Nat.testBit_xor, Nat.testBit_two_pow_mul_add _ hm, Nat.testBit_two_pow_mul_add _ (Nat.two_pow_pos i), Nat.testBit_two_pow_mul_add _ hm, Nat.testBit_xor]
  split <;> simp
theorem nx_or {i a b m : Nat} (hm : m < 2 ^ i) : (2 ^ i * a + m) ||| (2 ^ i * b) = 2 ^ i * (a ||| b) + m := by
  apply Nat.eq_of_testBit_eq
  intro j
  have h0 : 2 ^ i * b = 2 ^ i * b + 0 := rfl
  rw [h0, Nat.testBit_or, Nat.testBit_two_pow_mul_add _ hm, Nat.testBit_two_pow_mul_add _ (Nat.two_pow_pos i), Nat.testBit_two_pow_mul_add _ hm, Nat.testBit_or]
  split <;> simp
theorem nx_and {i a b m : Nat} (hm : m < 2 ^ i) : (2 ^ i * a + m) &&& (2 ^ i * b) = 2 ^ i * (a &&& b) := by
  apply Nat.eq_of_testBit_eq
  intro j
  have h0 : ∀ b, 2 ^ i * b = 2 ^ i * b + 0 := fun _ => rfl
  rw [h0 b, h0 (a &&& b), Nat.testBit_and, Nat.testBit_two_pow_mul_add _ hm, Nat.testBit_two_pow_mul_add _ (Nat.two_pow_pos i), Nat.testBit_two_pow_mul_add _ (Nat.two_pow_pos i), Nat.testBit_and]
  split <;> simp
/-- the number of sort n (float, else double) with sign s and the magnitude's code m -/
def cdH (n : Bool) : Nat := bif n then 18446744071562067968 else 9223372036854775808
def cdL (n s : Bool) (m : Nat) : Int64 := lN (m + bif s then cdH n else 0)
def hfN (n : Bool) : Nat := bif n then 2147483648 else 9223372036854775808
theorem cd_neg {n s : Bool} {m : Nat} (hm : m < hfN n) : cdL n s m < 0 ↔ s = true := by
  unfold cdL
  rw [Int64.lt_iff_toInt_lt]
  cases n <;> cases s <;> simp only [cond_true, cond_false, cdH, hfN, Nat.add_zero] at *
  · rw [nb_int (by omega)]; simp
  · rw [nb_intn (by omega) (by omega)]
    simp; omega
  · rw [nb_int (by omega)]; simp
  · rw [nb_intn (by omega) (by omega)]
    simp; omega
theorem cd_int {n s : Bool} {m : Nat} (hm : m < hfN n) : (cdL n s m).toInt = (m : Int) - bif s then (hfN n : Int) else 0 := by
  unfold cdL
  cases n <;> cases s <;> simp only [cond_true, cond_false, cdH, hfN, Nat.add_zero] at *
  · rw [nb_int (by omega)]; simp
  · rw [nb_intn (by omega) (by omega)]; omega
  · rw [nb_int (by omega)]; simp
  · rw [nb_intn (by omega) (by omega)]; omega
theorem cd_lN {n : Bool} {m : Nat} : cdL n false m = lN m := rfl
theorem cd_inj {n s t : Bool} {m k : Nat} (hm : m < hfN n) (hk : k < hfN n) : cdL n s m = cdL n t k ↔ s = t ∧ m = k := by
  constructor
  · intro h
    have h1 := congrArg Int64.toInt h
    rw [cd_int hm, cd_int hk] at h1
    cases n <;> cases s <;> cases t <;> simp [hfN] at * <;> omega
  · rintro ⟨rfl, rfl⟩; rfl
theorem sb_eq (n : Bool) : psSB n = lN (cdH n) := by cases n <;> decide
theorem sb_not (n : Bool) : psSB n ^^^ (-1 : Int64) = lN (hfN n - 1) := by cases n <;> decide
theorem s1_size {n s : Bool} {m : Nat} (hm : m < hfN n) : sX1_size n (cdL n s m) = lN m := by
  unfold sX1_size cdL
  rw [sb_not]
  cases n
  · rw [show hfN false - 1 = 2 ^ 63 - 1 from rfl, nb_mask]
    cases s <;> simp only [cond_true, cond_false, cdH, hfN] at * <;> exact congrArg lN (by omega)
  · rw [show hfN true - 1 = 2 ^ 31 - 1 from rfl, nb_mask]
    cases s <;> simp only [cond_true, cond_false, cdH, hfN] at * <;> exact congrArg lN (by omega)
theorem s1_turn {n s : Bool} {m : Nat} (hm : m < hfN n) : sX1_turn n (cdL n s m) = cdL n (!s) m := by
  unfold sX1_turn cdL
  rw [sb_eq, nb_xor]
  congr 1
  cases n
  · have h : ∀ a : Nat, (2 ^ 63 * a + m) ^^^ (2 ^ 63 * 1) = 2 ^ 63 * (a ^^^ 1) + m := fun a => nx_xor hm
    cases s
    · have := h 0
      simp [cdH] at this ⊢; omega
    · have := h 1
      simp [cdH] at this ⊢
      rw [Nat.add_comm]; exact this
  · have h : ∀ a : Nat, (2 ^ 31 * a + m) ^^^ (2 ^ 31 * 8589934591) = 2 ^ 31 * (a ^^^ 8589934591) + m := fun a => nx_xor hm
    cases s
    · have := h 0
      simp [cdH] at this ⊢; omega
    · have := h 8589934591
      simp [cdH] at this ⊢
      rw [Nat.add_comm]; exact this
theorem s1_wsign {n : Bool} {m : Nat} (hm : m < hfN n) (b : Int32) : sX1_withSign n (lN m) b = cdL n (decide (b ≠ 0)) m := by
  unfold sX1_withSign
  by_cases hb : b = 0
  · rw [if_pos hb]; simp [hb, cdL]
  · rw [if_neg hb, sb_eq, nb_or]
    simp only [hb, ne_eq, not_false_eq_true, decide_true]
    unfold cdL
    congr 1
    cases n
    · have h := nx_or (i := 63) (a := 0) (b := 1) hm
      simp [cdH] at h ⊢; omega
    · have h := nx_or (i := 31) (a := 0) (b := 8589934591) hm
      simp [cdH] at h ⊢; omega
