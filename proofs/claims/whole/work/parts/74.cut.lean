/-! The model's cut is the component's. -/
theorem enc_units {f : FP.Core.Fmt} (hf : FP.Core.Good f) (s : Bool) {m : Nat} (hm : m < FP.Core.infBits f) : FP.Core.encode f (FP.Core.roundRatio f s (FP.Core.unitsOf f m) 1 f.qmin) = cdN f s m := by
  obtain ⟨c, q, h1, h2, h3⟩ := dec_fin hf s hm
  have h4 : FP.Core.roundRatio f s (FP.Core.unitsOf f m) 1 f.qmin = .fin s c q := by
    rw [← round_units s h2.2.1 h3]; exact FP.Core.round_of_fits hf h2
  rw [h4, ← h1, enc_dec hf (by omega)]
theorem one_sc (n : Bool) : FP.Core.one64 = ouN (fbN n) (e1N n) * sc n := by
  unfold ouN
  cases n
  · rw [sc_f, Nat.mul_one]; rfl
  · rw [sc_t, ← kk_pow]; rfl
theorem gg_sc (s : Bool) (k : Int32) (A B : Nat) {K : Nat} (hK : 0 < K) : GG s k (A * K) (B * K) = GG s k A B := by
  unfold GG upN
  rw [Nat.mul_div_mul_right _ _ hK, FP.Core.nearest_scale _ _ _ hK, Nat.mul_mod_mul_right]
  have : A % B * K = 0 ↔ A % B = 0 := by
    constructor
    · intro h; rcases Nat.mul_eq_zero.mp h with h | h <;> omega
    · intro h; rw [h]; simp
  simp only [this]
/-- the code of the whole number asked for -/
def wN (n s : Bool) (k : Int32) (m : Nat) : Nat := if k = 1 then (bif s then wdN (fbN n) (e1N n) m else wuN (fbN n) (e1N n) m) else if k = 0 then wnN (fbN n) (e1N n) m else (bif s then wuN (fbN n) (e1N n) m else wdN (fbN n) (e1N n) m)
theorem wN_units (n s : Bool) (k : Int32) (m : Nat) : FP.Core.unitsOf (fm n) (wN n s k m) = GG s k (FP.Core.unitsOf (fm n) m) (ouN (fbN n) (e1N n)) * ouN (fbN n) (e1N n) := by
  obtain ⟨h1, h2, h3⟩ := whole_units (fm_good n) (F := fbN n) (E1 := e1N n) (m := m) (by rw [fm_tl, tl_pow]) (by cases n <;> decide) (by cases n <;> decide)
  unfold wN GG upN
  by_cases k1 : k = 1
  · rw [if_pos k1, if_pos k1]
    cases s
    · exact h2
    · exact h1
  · rw [if_neg k1, if_neg k1]
    by_cases k0 : k = 0
    · rw [if_pos k0, if_pos k0]; exact h3
    · rw [if_neg k0, if_neg k0]
      cases s
      · exact h1
      · exact h2
theorem wN_big {n s : Bool} {k : Int32} {m : Nat} (h : (e1N n + fbN n) * 2 ^ fbN n ≤ m) : wN n s k m = m := by
  have h2F : 0 < 2 ^ fbN n := Nat.two_pow_pos _
  have hge : e1N n + fbN n ≤ m / 2 ^ fbN n := (Nat.le_div_iff_mul_le h2F).mpr h
  have hu : unN (fbN n) (e1N n) m = 1 := by unfold unN; rw [if_neg (by omega)]
  have hlt : ¬ m < e1N n * 2 ^ fbN n := by
    have : e1N n * 2 ^ fbN n ≤ (e1N n + fbN n) * 2 ^ fbN n := Nat.mul_le_mul_right _ (by omega)
    omega
  have h1 : wdN (fbN n) (e1N n) m = m := by unfold wdN; rw [if_neg hlt, hu, Nat.mod_one, Nat.sub_zero]
  have h2 : wuN (fbN n) (e1N n) m = m := by unfold wuN; rw [if_neg hlt, hu, Nat.mod_one, if_pos rfl]
  have h3 : wnN (fbN n) (e1N n) m = m := by unfold wnN; rw [if_neg hlt, hu, Nat.mod_one, if_neg (by omega), Nat.sub_zero]
  unfold wN
  rw [h1, h2, h3]
  cases s <;> simp
theorem big_units (n : Bool) : FP.Core.unitsOf (fm n) ((e1N n + fbN n) * 2 ^ fbN n) = 2 ^ fbN n * ouN (fbN n) (e1N n) := by
  have hT : (fm n).tails = 2 ^ fbN n := by rw [fm_tl, tl_pow]
  rw [← hT, FP.Core.unitsOf_start (by cases n <;> decide)]
  rfl
theorem GG_le {s : Bool} {k : Int32} {A B C : Nat} (hB : 0 < B) (h : A ≤ C * B) : GG s k A B ≤ C := by
  have h1 : A / B ≤ C := by
    rw [Nat.div_le_iff_le_mul hB]; omega
  have h2 : upN A B ≤ C := by
    unfold upN
    by_cases h0 : A % B = 0
    · rw [if_pos h0]; exact h1
    · rw [if_neg h0]
      refine Nat.lt_of_not_le (fun h3 => h0 ?_)
      have h4 : A / B = C := by omega
      have h5 := Nat.div_add_mod A B
      rw [h4, Nat.mul_comm] at h5
      omega
  have h3 : FP.Core.nearest A B ≤ C := FP.Core.nearest_le hB h
  unfold GG
  cases s <;> simp only [cond_true, cond_false] <;> (repeat' split) <;> assumption
theorem wN_lt {n s : Bool} {k : Int32} {m : Nat} (hm : m < ibN n) : wN n s k m < ibN n := by
  by_cases h : (e1N n + fbN n) * 2 ^ fbN n ≤ m
  · rw [wN_big h]; exact hm
  · have h1 : FP.Core.unitsOf (fm n) m ≤ 2 ^ fbN n * ouN (fbN n) (e1N n) := by
      rw [← big_units]; exact FP.Core.unitsOf_le_iff.mpr (by omega)
    have h2 := GG_le (s := s) (k := k) (Nat.two_pow_pos _ : 0 < ouN (fbN n) (e1N n)) h1
    have h3 : FP.Core.unitsOf (fm n) (wN n s k m) ≤ FP.Core.unitsOf (fm n) ((e1N n + fbN n) * 2 ^ fbN n) := by
      rw [wN_units, big_units]; exact Nat.mul_le_mul_right _ h2
    have h4 := FP.Core.unitsOf_le_iff.mp h3
    have h5 : (e1N n + fbN n) * 2 ^ fbN n < ibN n := by cases n <;> decide
    omega
theorem wN_inf (n s : Bool) (k : Int32) : wN n s k (ibN n) = ibN n := wN_big (by cases n <;> decide)
theorem bits_real {n s : Bool} {m : Nat} (hm : m ≤ ibN n) : sX5_bits (md n) (sX5_real (md n) (cdL n s m)) = cdL n s m := by
  have hib := ib_lt n
  refine bits_of (nn_real (okF_cd hm)) (by omega) ?_
  rw [real_val hm]
  cases n
  · rw [dv_f, fm_f, FP.Core.round_of_fits FP.Core.good_b64 (FP.Core.decode_fits FP.Core.good_b64 _)]
    exact enc_dec FP.Core.good_b64 (by rw [← fm_ib, fm_f] at hm; exact hm)
  · rw [dv_t, fm_t, FP.Core.round_widen FP.Core.good_b32 FP.Core.good_b64 FP.Core.within_32_64 (FP.Core.decode_fits FP.Core.good_b32 _)]
    exact enc_dec FP.Core.good_b32 (by rw [← fm_ib, fm_t] at hm; exact hm)
theorem whole_far {x : UInt64} {k : Int32} (hn : FP.Core.val64 x ≠ .nan) (h : 4503599627370496 * FP.Core.one64 ≤ FP.Core.zmag FP.Core.b64 (FP.Core.val64 x)) : sX5_whole x k = x := by
  have c1 := cv_lt (o := CmpOp.l) hn nn_52
  have c2 := cv_gt (o := CmpOp.g) hn nn_52n
  rw [zv_52] at c1
  rw [zv_52n] at c2
  have hz : FP.Core.zval FP.Core.b64 (FP.Core.val64 x) = FP.Core.signed (FP.Core.sgn (FP.Core.val64 x)) (FP.Core.zmag FP.Core.b64 (FP.Core.val64 x)) := rfl
  rw [hz] at c1 c2
  have hcast : ((4503599627370496 : Nat) : Int) * (FP.Core.one64 : Int) = ((4503599627370496 * FP.Core.one64 : Nat) : Int) := by rw [Int.natCast_mul]
  rw [hcast] at c1 c2
  generalize 4503599627370496 * FP.Core.one64 = D at *
  generalize FP.Core.zmag FP.Core.b64 (FP.Core.val64 x) = Z at *
  generalize FP.Core.sgn (FP.Core.val64 x) = s at *
  unfold sX5_whole
  unfold FP.Core.signed at c1 c2
  cases s
  · simp only [Bool.false_eq_true, if_false] at c1 c2
    rw [if_neg (fun q => by have := c1.mp q; omega)]
  · simp only [if_true] at c1 c2
    by_cases q : Op.cmpValue (FP.dcmp x (4841369599423283200 : UInt64)) CmpOp.l < 0
    · rw [if_pos q, if_neg (fun w => by have := c2.mp w; omega)]
    · rw [if_neg q]
theorem md_whole (n : Bool) : sX5_isWhole (md n) = 0 := by cases n <;> decide
/-- the model's cut -/
theorem cut_eq {n s : Bool} {m : Nat} (k : Int32) (hm : m ≤ ibN n) : sX5_cut (md n) (cdL n s m) k = cdL n s (wN n s k m) := by
  have hib := ib_lt n
  have hn := nn_real (okF_cd (s := s) hm)
  have hnv : FP.Core.val64 (sX5_real (md n) (cdL n s m)) ≠ .nan := (FP.Core.notNaN_iff _).mp ((n64_iff _).mp hn)
  have hv := real_val (s := s) hm
  unfold sX5_cut
  rw [if_pos (md_whole n)]
  by_cases hmi : m = ibN n
  · subst hmi
    rw [wN_inf, whole_far hnv, bits_real (Nat.le_refl _)]
    rw [hv, dv_inf]
    show _ ≤ FP.Core.b64.tails * 2 ^ (FP.Core.b64.exps - 2)
    unfold FP.Core.one64
    rw [FP.Core.tails_b64, show FP.Core.b64.exps - 2 = 2046 by decide]
    exact Nat.mul_le_mul (by decide) (Nat.pow_le_pow_right (by decide) (by decide))
  · have hm' : m < ibN n := by omega
    obtain ⟨c, q, h1, h2, h3⟩ := dv_fin s hm'
    have hou : 0 < ouN (fbN n) (e1N n) := Nat.two_pow_pos _
    have hsc := sc_pos n
    rw [h1] at hv
    by_cases hbig : 4503599627370496 * FP.Core.one64 ≤ FP.Core.unitsOf (fm n) m * sc n
    · rw [whole_far hnv (by rw [hv]; show _ ≤ FP.Core.inUnits c q FP.Core.b64.qmin; rw [h3]; exact hbig), bits_real hm]
      rw [wN_big]
      rw [one_sc n, ← Nat.mul_assoc] at hbig
      have h4 := Nat.le_of_mul_le_mul_right hbig hsc
      refine FP.Core.unitsOf_le_iff (f := fm n).mp ?_
      rw [big_units]
      exact Nat.le_trans (Nat.mul_le_mul_right _ (by cases n <;> decide)) h4
    · obtain ⟨c', q', w1, w2⟩ := whole_ok hv h3 (by omega) k
      have hw := wN_lt (s := s) (k := k) hm'
      have hfit : FP.Core.fits FP.Core.b64 (.fin s c' q') := w1 ▸ FP.Core.val64_fits _
      rw [one_sc n, gg_sc s k _ _ hsc, ← Nat.mul_assoc, ← wN_units] at w2
      have hnw : vf_n64 (sX5_whole (sX5_real (md n) (cdL n s m)) k) := nn_whole hn
      refine bits_of hnw (by omega) ?_
      rw [w1]
      cases n
      · rw [fm_f] at *
        rw [sc_f, Nat.mul_one] at w2
        rw [round_units s hfit.2.1 w2]
        exact enc_units FP.Core.good_b64 s (by rw [← fm_ib, fm_f] at hw; exact hw)
      · rw [fm_t] at *
        rw [sc_t] at w2
        rw [narrow_ok hfit.2.1 w2]
        exact enc_units FP.Core.good_b32 s (by rw [← fm_ib, fm_t] at hw; exact hw)
/-- the component's -/
theorem s1_down {n s : Bool} {m : Nat} (hm : m ≤ ibN n) : sX1_down n (cdL n s m) = cdL n s (wN n s (-1) m) := by
  have hib := ib_lt n
  have hmh : m < hfN n := by omega
  have hw : wN n s (-1) m < hfN n := by
    rcases Nat.lt_or_ge m (ibN n) with h | h
    · have := wN_lt (s := s) (k := -1) h; omega
    · rw [show m = ibN n by omega, wN_inf]; exact hib
  unfold wN at *
  rw [if_neg (by decide), if_neg (by decide)] at *
  unfold sX1_down
  cases s
  · rw [if_neg (fun h => Bool.noConfusion ((cd_neg hmh).mp h)), cd_lN, s1_wd hmh]; rfl
  · rw [cond_true] at hw ⊢
    rw [if_pos ((cd_neg hmh).mpr rfl), s1_size hmh, s1_wu hmh, s1_wsign hw]; rfl
theorem s1_up {n s : Bool} {m : Nat} (hm : m ≤ ibN n) : sX1_up n (cdL n s m) = cdL n s (wN n s 1 m) := by
  have hib := ib_lt n
  have hmh : m < hfN n := by omega
  have hw : wN n s 1 m < hfN n := by
    rcases Nat.lt_or_ge m (ibN n) with h | h
    · have := wN_lt (s := s) (k := 1) h; omega
    · rw [show m = ibN n by omega, wN_inf]; exact hib
  unfold wN at *
  rw [if_pos rfl] at *
  unfold sX1_up
  cases s
  · rw [if_neg (fun h => Bool.noConfusion ((cd_neg hmh).mp h)), cd_lN, s1_wu hmh]; rfl
  · rw [cond_true] at hw ⊢
    rw [if_pos ((cd_neg hmh).mpr rfl), s1_size hmh, s1_wd hmh, s1_wsign hw]; rfl
theorem s1_near {n s : Bool} {m : Nat} (hm : m ≤ ibN n) : sX1_near n (cdL n s m) = cdL n s (wN n s 0 m) := by
  have hib := ib_lt n
  have hmh : m < hfN n := by omega
  have hw : wN n s 0 m < hfN n := by
    rcases Nat.lt_or_ge m (ibN n) with h | h
    · have := wN_lt (s := s) (k := 0) h; omega
    · rw [show m = ibN n by omega, wN_inf]; exact hib
  unfold wN at *
  rw [if_neg (by decide), if_pos rfl] at *
  unfold sX1_near sX1_near_j1
  rw [s1_size hmh, s1_wn hmh, s1_wsign hw]
  simp only [cd_neg hmh]
  cases s <;> simp
