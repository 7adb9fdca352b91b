/-! The model's reckoning in doubles, on codes. -/
def md (n : Bool) : Int32 := bif n then 2 else 3
theorem cdN_size {n s : Bool} {m : Nat} (hm : m < hfN n) : cdN (fm n) s m < 2 * hfN n := by
  have := cdN_lt (f := fm n) (s := s) (m := m) (by rw [fm_hf]; exact hm)
  rwa [fm_hf] at this
theorem cdN_eq {n s : Bool} {m : Nat} : cdN (fm n) s m = m + bif s then hfN n else 0 := by
  unfold cdN
  rw [fm_hf]
  cases s <;> simp <;> omega
theorem u64_nat {a : Nat} (h : a < 2 ^ 64) : (UInt64.ofNat a).toNat = a := Nat.mod_eq_of_lt h
theorem u32_nat {a : Nat} (h : a < 2 ^ 32) : (UInt32.ofNat a).toNat = a := Nat.mod_eq_of_lt h
theorem cd_u64 {s : Bool} {m : Nat} : (cdL false s m).toUInt64 = UInt64.ofNat (cdN (fm false) s m) := by
  rw [cdN_eq]
  unfold cdL
  cases s <;> rfl
theorem cd_u32 {s : Bool} {m : Nat} (hm : m < hfN true) : (cdL true s m).toInt32.toUInt32 = UInt32.ofNat (cdN (fm true) s m) := by
  rw [cdN_eq]
  unfold cdL
  apply UInt32.toNat_inj.mp
  show ((lN (m + bif s then cdH true else 0)).toInt32).toBitVec.toNat = _
  have h1 : ∀ a : Nat, (lN a).toInt32.toBitVec = (BitVec.ofNat 64 a).setWidth 32 := fun a => by
    show (BitVec.ofNat 64 a).signExtend 32 = _
    exact BitVec.signExtend_eq_setWidth_of_le _ (by decide)
  rw [h1, BitVec.toNat_setWidth, BitVec.toNat_ofNat]
  cases s <;> simp only [cond_true, cond_false, cdH, hfN, Nat.add_zero] at *
  · rw [u32_nat (by omega)]; omega
  · rw [u32_nat (by omega)]; omega
theorem cd_of64 {s : Bool} {m : Nat} : (UInt64.ofNat (cdN (fm false) s m)).toInt64 = cdL false s m := by rw [← cd_u64, Int64.toInt64_toUInt64]
theorem cd_ext {s : Bool} {m : Nat} (hm : m < hfN true) : (cdL true s m).toInt32.toInt64 = cdL true s m := by
  apply Int64.toInt_inj.mp
  rw [Int32.toInt_toInt64, Int64.toInt_toInt32, cd_int hm, Int.bmod_def]
  cases s <;> simp only [cond_true, cond_false, hfN] at * <;> omega
theorem cd_of32 {s : Bool} {m : Nat} (hm : m < hfN true) : (UInt32.ofNat (cdN (fm true) s m)).toInt32.toInt64 = cdL true s m := by rw [← cd_u32 hm, Int32.toInt32_toUInt32, cd_ext hm]
theorem nn64_cd {s : Bool} {m : Nat} (hm : m ≤ ibN false) : vf_n64 (UInt64.ofNat (cdN (fm false) s m)) := by
  have h := ib_lt false
  rw [n64_iff, FP.Core.notNaN_iff, FP.Core.ne_nan, u64_nat (by have := cdN_size (n := false) (s := s) (m := m) (by omega); simp only [hfN, cond_false] at this; omega), cdN_eq]
  cases s <;> simp only [cond_true, cond_false, hfN, ibN] at * <;> omega
theorem nn32_cd {s : Bool} {m : Nat} (hm : m ≤ ibN true) : vf_n32 (UInt32.ofNat (cdN (fm true) s m)) := by
  have h := ib_lt true
  rw [n32_iff, FP.Core.notNaN_iff32, FP.Core.ne_nan32, u32_nat (by have := cdN_size (n := true) (s := s) (m := m) (by omega); simp only [hfN, cond_true] at this; omega), cdN_eq]
  cases s <;> simp only [cond_true, cond_false, hfN, ibN] at * <;> omega
theorem okF_cd {n s : Bool} {m : Nat} (hm : m ≤ ibN n) : okF (md n) (cdL n s m) := by
  cases n
  · refine ⟨fun h => absurd h (by decide), fun _ => ?_⟩
    rw [cd_u64]; exact nn64_cd hm
  · refine ⟨fun _ => ?_, fun h => absurd rfl h⟩
    rw [cd_u32 (by have := ib_lt true; omega)]; exact nn32_cd hm
/-- the double that stands for the number -/
def dv (n s : Bool) (m : Nat) : FP.Core.Datum := bif n then FP.Core.round FP.Core.b64 (FP.Core.decode FP.Core.b32 (cdN FP.Core.b32 s m)) else FP.Core.decode FP.Core.b64 (cdN FP.Core.b64 s m)
theorem dv_f (s : Bool) (m : Nat) : dv false s m = FP.Core.decode FP.Core.b64 (cdN FP.Core.b64 s m) := by unfold dv; rw [cond_false]
theorem dv_t (s : Bool) (m : Nat) : dv true s m = FP.Core.round FP.Core.b64 (FP.Core.decode FP.Core.b32 (cdN FP.Core.b32 s m)) := by unfold dv; rw [cond_true]
theorem fm_f : fm false = FP.Core.b64 := rfl
theorem fm_t : fm true = FP.Core.b32 := rfl
theorem real_val {n s : Bool} {m : Nat} (hm : m ≤ ibN n) : FP.Core.val64 (sX5_real (md n) (cdL n s m)) = dv n s m := by
  have h := ib_lt n
  unfold sX5_real
  cases n
  · rw [show md false = 3 from rfl, if_neg (by decide), cd_u64]
    unfold FP.Core.val64
    rw [u64_nat (by have := cdN_size (n := false) (s := s) (m := m) (by omega); simp only [hfN, cond_false] at this; omega), dv_f, fm_f]
  · rw [show md true = 2 from rfl, if_pos rfl, cd_u32 (by omega)]
    unfold FP.f2d
    rw [if_neg (by rw [(n32_iff _).mp (nn32_cd hm)]; decide), FP.Core.val64_f2d]
    unfold FP.Core.val32
    rw [u32_nat (by have := cdN_size (n := true) (s := s) (m := m) (by omega); simp only [hfN, cond_true] at this; omega), dv_t, fm_t]
theorem bits_of {n s : Bool} {m : Nat} {x : UInt64} (hx : vf_n64 x) (hm : m < hfN n) (h : FP.Core.encode (fm n) (FP.Core.round (fm n) (FP.Core.val64 x)) = cdN (fm n) s m) : sX5_bits (md n) x = cdL n s m := by
  cases n
  · rw [bits3 (by decide) hx]
    have h1 := h
    rw [fm_f, FP.Core.round_of_fits FP.Core.good_b64 (FP.Core.val64_fits x)] at h1
    have h2 : x = FP.Core.of64 (FP.Core.val64 x) := (FP.Core.of64_val64 ((FP.Core.notNaN_iff x).mp ((n64_iff x).mp hx))).symm
    unfold FP.Core.of64 at h2
    rw [h2, h1, ← fm_f, cd_of64]
  · rw [show md true = 2 from rfl, bits2 hx]
    unfold FP.d2f
    rw [if_neg (by rw [(n64_iff _).mp hx]; decide)]
    have h1 : FP.Core.d2f x = UInt32.ofNat (FP.Core.encode FP.Core.b32 (FP.Core.round FP.Core.b32 (FP.Core.val64 x))) := rfl
    rw [fm_t] at h
    rw [h1, h, ← fm_t, cd_of32 hm]
theorem nn_val {x : UInt64} (h : FP.Core.val64 x ≠ .nan) : vf_n64 x := (n64_iff x).mpr ((FP.Core.notNaN_iff x).mpr h)
theorem dv_inf (n s : Bool) : dv n s (ibN n) = .inf s := by
  cases n
  · rw [dv_f, ← fm_ib false, fm_f, dec_inf]
  · rw [dv_t, ← fm_ib true, fm_t, dec_inf]; rfl
/-- units of a double in one of the sort's least numbers -/
noncomputable def sc (n : Bool) : Nat := bif n then kk else 1
theorem sc_f : sc false = 1 := rfl
theorem sc_t : sc true = kk := rfl
theorem sc_pos (n : Bool) : 0 < sc n := by cases n; decide; exact kk_pos
theorem dv_fin {n : Bool} (s : Bool) {m : Nat} (hm : m < ibN n) : ∃ c q, dv n s m = .fin s c q ∧ FP.Core.fits FP.Core.b64 (.fin s c q) ∧ FP.Core.inUnits c q FP.Core.b64.qmin = FP.Core.unitsOf (fm n) m * sc n := by
  cases n
  · obtain ⟨c, q, h1, h2, h3⟩ := dec_fin FP.Core.good_b64 s (m := m) (by rw [← fm_ib false, fm_f] at hm; exact hm)
    exact ⟨c, q, by rw [dv_f, h1], h2, by rw [h3, fm_f, sc_f, Nat.mul_one]⟩
  · obtain ⟨c, q, h1, h2, h3⟩ := dec_fin FP.Core.good_b32 s (m := m) (by rw [← fm_ib true, fm_t] at hm; exact hm)
    obtain ⟨c', q', g1, g2, g3⟩ := widen_ok h2
    exact ⟨c', q', by rw [dv_t, h1, g1], g2, by rw [g3, h3, fm_t, sc_t]⟩
theorem dv_neg {n s : Bool} {m : Nat} (hm : m < hfN n) : FP.Core.negate (dv n s m) = dv n (!s) m := by
  have key : ∀ f : FP.Core.Fmt, m < FP.Core.half f → FP.Core.negate (FP.Core.decode f (cdN f s m)) = FP.Core.decode f (cdN f (!s) m) := by
    intro f hf
    have h1 := FP.Core.decode_half hf
    have e0 : cdN f false m = m := by simp [cdN]
    have e1 : cdN f true m = m + FP.Core.half f := by simp [cdN]; omega
    cases s
    · rw [e0, show (!false) = true from rfl, e1, h1]
    · rw [e1, show (!true) = false from rfl, e0, h1, FP.Core.negate_negate]
  cases n
  · rw [dv_f, dv_f]; exact key FP.Core.b64 (by rw [← fm_hf false, fm_f] at hm; exact hm)
  · rw [dv_t, dv_t, FP.Core.negate_round, key FP.Core.b32 (by rw [← fm_hf true, fm_t] at hm; exact hm)]
theorem signed_sc (s t : Bool) (a b K : Nat) : FP.Core.signed s (a * K) + FP.Core.signed t (b * K) = (FP.Core.signed s a + FP.Core.signed t b) * (K : Int) := by
  rw [FP.Core.signed_mul, FP.Core.signed_mul, Int.add_mul]
theorem sumSign_sc (s t : Bool) {z : Int} {K : Nat} (hK : 0 < K) : FP.Core.sumSign s t (z * (K : Int)) = FP.Core.sumSign s t z := by
  unfold FP.Core.sumSign
  have h2p : (0 : Int) < (K : Int) := by omega
  by_cases h0 : z = 0
  · rw [if_pos h0, if_pos (by rw [h0]; simp)]
  · rw [if_neg h0, if_neg (fun h => (Int.mul_eq_zero.mp h).elim h0 (by omega))]
    congr 1
    apply propext
    constructor
    · intro h
      rcases Int.lt_or_le z 0 with h3 | h3
      · exact h3
      · have := Int.mul_nonneg h3 (Int.le_of_lt h2p)
        omega
    · intro h; exact Int.mul_neg_of_neg_of_pos h h2p
theorem sum_dv {n s t : Bool} {m k : Nat} (hm : m < ibN n) (hk : k < ibN n) : FP.Core.round FP.Core.b64 (FP.Core.exactSum (dv n s m) (dv n t k)) = FP.Core.roundRatio FP.Core.b64 (adS s m t k) (adZ (fm n) s m t k * sc n) 1 FP.Core.b64.qmin := by
  obtain ⟨c, q, h1, h2, h3⟩ := dv_fin s hm
  obtain ⟨d, r, g1, g2, g3⟩ := dv_fin t hk
  obtain ⟨x, e, e1, e2, e3⟩ := sum_full h2 g2
  obtain ⟨z1, z2⟩ := adZ_ok (f := fm n) s t m k
  rw [h3, g3, signed_sc] at e1 e3
  rw [sumSign_sc s t (sc_pos n), z2] at e1
  rw [Int.natAbs_mul, z1, Int.natAbs_natCast] at e3
  rw [h1, g1, e1, round_units _ e2 e3]
theorem sum_mod {n s t : Bool} {m k : Nat} (hm : m < ibN n) (hk : k < ibN n) : FP.Core.encode (fm n) (FP.Core.round (fm n) (FP.Core.round FP.Core.b64 (FP.Core.exactSum (dv n s m) (dv n t k)))) = cdN (fm n) (adS s m t k) (adM (tlN n) (eiN n) s m t k) := by
  have hA : ∀ n, FP.Core.encode (fm n) (FP.Core.roundRatio (fm n) (adS s m t k) (adZ (fm n) s m t k) 1 (fm n).qmin) = cdN (fm n) (adS s m t k) (adM (tlN n) (eiN n) s m t k) := fun n => by
    have := ad_ok (fm_good n) (fm_T n) (s != t) (adS s m t k) (l := max m k) (r := min m k) (by omega)
    rw [fm_tl, fm_ei] at this
    exact this
  rw [sum_dv hm hk]
  cases n
  · rw [sc_f, Nat.mul_one, ← hA false, fm_f]
    congr 1
    exact FP.Core.round_of_fits FP.Core.good_b64 (FP.Core.roundRatio_fits FP.Core.good_b64 _ _ (by decide) _)
  · rw [← hA true, sc_t, fm_t]
    unfold adZ
    exact dr_ok (s != t) (by omega) (by rw [← fm_ib true, fm_t] at hm hk; omega)
/-- the model's sum is the component's -/
theorem sum_eq {n s t : Bool} {m k : Nat} (hm : m ≤ ibN n) (hk : k ≤ ibN n) (hns : m = ibN n → k = ibN n → s = t) {x : UInt64} (hx : FP.Core.val64 x = FP.Core.round FP.Core.b64 (FP.Core.exactSum (dv n s m) (dv n t k))) : vf_n64 x ∧ sX5_bits (md n) x = sX1_sum n (cdL n s m) (cdL n t k) := by
  have hib := ib_lt n
  have hinf : ∀ u : Bool, FP.Core.val64 x = .inf u → vf_n64 x ∧ sX5_bits (md n) x = cdL n u (ibN n) := fun u h => by
    have hn : vf_n64 x := nn_val (by rw [h]; intro q; cases q)
    refine ⟨hn, bits_of hn hib ?_⟩
    rw [h, ← fm_ib]; exact enc_inf
  by_cases h1 : m = ibN n
  · subst h1
    rw [s1_sumL]
    refine hinf s ?_
    rw [hx, dv_inf]
    by_cases h2 : k = ibN n
    · subst h2
      rw [dv_inf, hns rfl rfl]
      show FP.Core.round _ (if t = t then FP.Core.Datum.inf t else .nan) = _
      rw [if_pos rfl]; rfl
    · obtain ⟨d, r, g1, -, -⟩ := dv_fin (n := n) t (m := k) (by omega)
      rw [g1]; rfl
  · by_cases h2 : k = ibN n
    · subst h2
      rw [s1_sumR (by omega)]
      refine hinf t ?_
      obtain ⟨d, r, g1, -, -⟩ := dv_fin (n := n) s (m := m) (by omega)
      rw [hx, dv_inf, g1]; rfl
    · have hm' : m < ibN n := by omega
      have hk' : k < ibN n := by omega
      have hn : vf_n64 x := nn_val (by rw [hx, sum_dv hm' hk']; exact FP.Core.roundRatio_ne_nan _ _ _ _ _)
      refine ⟨hn, ?_⟩
      rw [s1_sum hm' hk']
      refine bits_of hn (by have := adM_le n s t m k; omega) ?_
      rw [hx]; exact sum_mod hm' hk'
theorem prod_mod {n s : Bool} {m a : Nat} {p : Int} (hm : m < ibN n) (hp1 : -100 ≤ p) (hp2 : p ≤ 100) : FP.Core.encode (fm n) (FP.Core.round (fm n) (FP.Core.round FP.Core.b64 (FP.Core.exactProduct (dv n s m) (.fin false (2 ^ a) (p - a))))) = cdN (fm n) s (scN (tlN n) (eiN n) m p) := by
  have hA : ∀ n, FP.Core.encode (fm n) (FP.Core.roundRatio (fm n) s (FP.Core.unitsOf (fm n) m) 1 ((fm n).qmin + p)) = cdN (fm n) s (scN (tlN n) (eiN n) m p) := fun n => by
    have := sc_ok (fm_good n) (fm_T n) s m p
    rw [fm_tl, fm_ei] at this
    exact this
  obtain ⟨c, q, h1, h2, h3⟩ := dv_fin s hm
  rw [h1, prod_pow s h2.2.1 h3]
  cases n
  · rw [sc_f, Nat.mul_one, ← hA false, fm_f]
    congr 1
    exact FP.Core.round_of_fits FP.Core.good_b64 (FP.Core.roundRatio_fits FP.Core.good_b64 _ _ (by decide) _)
  · rw [← hA true, sc_t, fm_t]
    congr 1
    obtain ⟨c0, q0, f1, f2, f3⟩ := dec_fin FP.Core.good_b32 s (m := m) (by rw [← fm_ib true, fm_t] at hm; exact hm)
    have e1 : FP.Core.b32.qmin = -149 := FP.Core.qmin_b32
    have e2 : FP.Core.b64.qmin = -1074 := FP.Core.qmin_b64
    have e3 : FP.Core.b32.qmax = 104 := by decide
    have e4 : FP.Core.b64.qmax = 971 := by decide
    have e5 : (2 : Nat) ^ FP.Core.b32.p = 16777216 := by decide
    have e6 : (2 : Nat) ^ FP.Core.b64.p = 9007199254740992 := by decide
    obtain ⟨b1, b2, b3, -⟩ := f2
    have r1 : FP.Core.roundRatio FP.Core.b64 s (FP.Core.unitsOf FP.Core.b32 m * kk) 1 (FP.Core.b64.qmin + p) = FP.Core.round FP.Core.b64 (.fin s c0 (q0 + p)) := by
      refine FP.Core.roundRatio_congr (by decide) (by decide) ?_
      rw [← f3]
      unfold FP.Core.inUnits
      rw [e1, e2] at *
      rw [show (-1074 + p - (q0 + p)).toNat = 0 by omega, show (q0 + p - (-1074 + p)).toNat = (q0 - -149).toNat + 925 by omega, kk_pow]
      simp only [Nat.pow_zero, Nat.mul_one]
      rw [Nat.mul_assoc]
    obtain ⟨c', q', g1, g2⟩ := FP.Core.round_exact FP.Core.good_b64 s (c := c0) (q := q0 + p) (by rw [e6]; rw [e5] at b1; omega) (by omega) (by omega)
    have g3 := FP.Core.round_fits FP.Core.good_b64 (.fin s c0 (q0 + p))
    rw [g1] at g3
    rw [r1, g1]
    have r2 : FP.Core.round FP.Core.b32 (.fin s c' q') = FP.Core.roundRatio FP.Core.b32 s (FP.Core.inUnits c' q' FP.Core.b64.qmin) 1 FP.Core.b64.qmin := by
      have := g3.2.1
      refine FP.Core.roundRatio_congr (by decide) (by decide) ?_
      unfold FP.Core.inUnits
      rw [show (FP.Core.b64.qmin - q').toNat = 0 by omega]
      simp
    rw [r2, g2, ← f3]
    refine FP.Core.roundRatio_congr (by decide) (by decide) ?_
    unfold FP.Core.inUnits
    rw [e1, e2] at *
    rw [Nat.mul_one, Nat.mul_one, Nat.mul_assoc, ← Nat.pow_add, Nat.mul_assoc, ← Nat.pow_add]
    congr 2
    omega
theorem prod_eq {n s : Bool} {m a : Nat} {p : Int32} (hm : m ≤ ibN n) (hp1 : -100 ≤ p.toInt) (hp2 : p.toInt ≤ 100) {x : UInt64} (hx : FP.Core.val64 x = FP.Core.round FP.Core.b64 (FP.Core.exactProduct (dv n s m) (.fin false (2 ^ a) (p.toInt - a)))) : vf_n64 x ∧ sX5_bits (md n) x = sX1_scaled n (cdL n s m) p := by
  have hib := ib_lt n
  by_cases h1 : m = ibN n
  · subst h1
    have h : FP.Core.val64 x = .inf s := by
      rw [hx, dv_inf]
      show FP.Core.round _ (if 2 ^ a = 0 then FP.Core.Datum.nan else .inf (s != false)) = _
      rw [if_neg (by have := Nat.two_pow_pos a; omega)]
      cases s <;> rfl
    have hn : vf_n64 x := nn_val (by rw [h]; intro q; cases q)
    refine ⟨hn, ?_⟩
    rw [s1_scaledI]
    refine bits_of hn hib ?_
    rw [h, ← fm_ib]; exact enc_inf
  · have hm' : m < ibN n := by omega
    obtain ⟨c, q, g1, g2, g3⟩ := dv_fin s hm'
    have hn : vf_n64 x := nn_val (by rw [hx, g1, prod_pow s g2.2.1 g3]; exact FP.Core.roundRatio_ne_nan _ _ _ _ _)
    refine ⟨hn, ?_⟩
    rw [s1_scaled hm' (by omega) (by omega)]
    refine bits_of hn (by have := scN_le n m p.toInt; omega) ?_
    rw [hx]; exact prod_mod hm' hp1 hp2
