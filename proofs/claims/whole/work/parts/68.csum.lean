/-! The component's sums and products on codes. -/
def fm (n : Bool) : FP.Core.Fmt := bif n then FP.Core.b32 else FP.Core.b64
theorem fm_tl (n : Bool) : (fm n).tails = tlN n := by cases n <;> decide
theorem fm_ei (n : Bool) : (fm n).exps - 1 = eiN n := by cases n <;> decide
theorem fm_ib (n : Bool) : FP.Core.infBits (fm n) = ibN n := by cases n <;> decide
theorem fm_hf (n : Bool) : FP.Core.half (fm n) = hfN n := by cases n <;> decide
theorem fm_good (n : Bool) : FP.Core.Good (fm n) := by cases n; exact FP.Core.good_b64; exact FP.Core.good_b32
theorem fm_T (n : Bool) : 32 * (fm n).tails ≤ 2 ^ 58 := by rw [fm_tl]; exact (tl_two n).2
theorem nd_lt (L : Nat) : ∀ (k m : Nat) (e : Int), m < 2 * L → (ndLoop L k m e).1 < 2 * L := by
  intro k
  induction k with
  | zero => intro m e h; exact h
  | succ k ih =>
    intro m e h
    rw [ndLoop]
    split
    · split
      · exact ih _ _ (by omega)
      · exact h
    · exact h
theorem rdN_le {T EI m : Nat} {e : Int} (hT : 0 < T) (hE : 2 ≤ EI) (hm : m < 32 * T) : rdN T EI m e ≤ EI * T := by
  have h1 : (rd1 T m e).1 < 16 * T := by
    unfold rd1
    by_cases h : m < 16 * T
    · rw [if_pos h]; exact h
    · rw [if_neg h]; exact shd_lt (k := 1) hT (by decide) hm
  have h2 : (rd2 T m e).1 < 16 * T := by
    have := nd_lt (8 * T) 60 (rd1 T m e).1 (rd1 T m e).2 (by omega)
    unfold rd2; omega
  have h3 : (rd3 (rd2 T m e)).1 < 16 * T ∧ 1 ≤ (rd3 (rd2 T m e)).2 := by
    unfold rd3
    by_cases h : (rd2 T m e).2 < 1
    · rw [if_pos h]; exact ⟨shd_lt hT (by omega) (by omega), Int.le_refl 1⟩
    · rw [if_neg h]; exact ⟨h2, by omega⟩
  unfold rdN rd4
  generalize rd3 (rd2 T m e) = x at *
  by_cases h : x.2 < (EI : Int)
  · rw [if_pos h]
    have h4 : FP.Core.nearest x.1 8 ≤ 2 * T := FP.Core.nearest_le (by decide) (by omega)
    have h5 : (x.2 - 1).toNat * T ≤ (EI - 2) * T := Nat.mul_le_mul_right T (by omega)
    have h6 : (EI - 2) * T + 2 * T = EI * T := by rw [← Nat.add_mul]; congr 1; omega
    omega
  · rw [if_neg h]; exact Nat.le_refl _
theorem shd_top {T m : Nat} (hT : 0 < T) (h : m < 16 * T) (k : Nat) : shd m k < 16 * T := by
  rcases Nat.eq_zero_or_pos k with h0 | h0
  · subst h0; unfold shd; rw [if_pos (by decide)]; simp; omega
  · exact shd_lt hT h0 (by omega)
theorem tgN_lt {T : Nat} (hT : 0 < T) (sub : Bool) (l r : Nat) : tgN T sub l r < 32 * T := by
  have h1 := sgN_lt (m := l) hT
  have h2 := shd_top hT (m := 8 * sgN T r) (by have := sgN_lt (m := r) hT; omega) (exN T l - exN T r)
  unfold tgN
  cases sub
  · simp only [cond_false]; omega
  · simp only [cond_true]; omega
theorem adM_le (n s t : Bool) (m k : Nat) : adM (tlN n) (eiN n) s m t k ≤ ibN n := by
  have hT := (tl_two n).1
  unfold adM
  split
  · omega
  · rw [ib_eq]; exact rdN_le (by omega) (by cases n <;> decide) (tgN_lt (by omega) _ _ _)
theorem scN_le (n : Bool) (m : Nat) (p : Int) : scN (tlN n) (eiN n) m p ≤ ibN n := by
  have hT := (tl_two n).1
  unfold scN
  split
  · omega
  · rw [ib_eq]
    have := sgN_lt (T := tlN n) (m := m) (by omega)
    exact rdN_le (by omega) (by cases n <;> decide) (by omega)
theorem s1_inf {n s : Bool} {m : Nat} (hm : m < hfN n) : sX1_isInfinite n (cdL n s m) = 0 ↔ m ≠ ibN n := by
  have h1 := hf_le n
  have h2 := ib_lt n
  unfold sX1_isInfinite
  rw [s1_size hm, inf_eq]
  by_cases h : m = ibN n
  · rw [if_pos (by rw [h])]; simp [h]
  · rw [if_neg (fun h3 => h ((nb_inj (by omega) (by omega)).mp h3))]; simp [h]
theorem nI_sub {a b : Nat} (h : b ≤ a) (ha : a < 2 ^ 31) : nI a - nI b = nI (a - b) := by
  apply Int32.toInt_inj.mp
  rw [Int32.toInt_sub, nI_int ha, nI_int (by omega), nI_int (by omega), Int.bmod_def]
  omega
theorem cd_and {n s t : Bool} {m k : Nat} (hm : m < hfN n) (hk : k < hfN n) : (cdL n s m &&& cdL n t k) &&& psSB n = cdL n (s && t) 0 := by
  unfold cdL
  rw [sb_eq, Int64.and_assoc, nb_and, nb_and]
  congr 1
  cases n
  · have h : ∀ a b m : Nat, m < 2 ^ 63 → (2 ^ 63 * a + m) &&& (2 ^ 63 * b) = 2 ^ 63 * (a &&& b) := fun a b m hm => nx_and hm
    have e : ∀ (s : Bool) (m : Nat), (m + bif s then cdH false else 0) = 2 ^ 63 * s.toNat + m := fun s m => by cases s <;> simp [cdH] <;> omega
    rw [e, e, e, show cdH false = 2 ^ 63 * 1 from rfl, h _ _ _ hk, h _ _ _ hm]
    cases s <;> cases t <;> rfl
  · have h : ∀ a b m : Nat, m < 2 ^ 31 → (2 ^ 31 * a + m) &&& (2 ^ 31 * b) = 2 ^ 31 * (a &&& b) := fun a b m hm => nx_and hm
    have e : ∀ (s : Bool) (m : Nat), (m + bif s then cdH true else 0) = 2 ^ 31 * (bif s then 8589934591 else 0) + m := fun s m => by cases s <;> simp [cdH] <;> omega
    rw [e, e, e, show cdH true = 2 ^ 31 * 8589934591 from rfl, h _ _ _ hk, h _ _ _ hm]
    cases s <;> cases t <;> rfl
/-- the sum of two that are finite, the first one's magnitude not below the other's; the magnitudes are l and r -/
theorem s1_most {n : Bool} {l r : Nat} (hr : r ≤ l) : shd (8 * sgN (tlN n) r) (exN (tlN n) l - exN (tlN n) r) ≤ 8 * sgN (tlN n) l := by
  have hT := (tl_two n).1
  have hg := sgN_lt (T := tlN n) (m := r) (by omega)
  have hx := exN_pos (T := tlN n) (m := r)
  have hmono := exN_mono (T := tlN n) hr
  rcases Nat.eq_zero_or_pos (exN (tlN n) l - exN (tlN n) r) with h | h
  · rw [h]
    unfold shd
    rw [if_pos (by decide)]
    simp only [Nat.pow_zero, Nat.div_one, Nat.mul_one, if_true]
    have hU := FP.Core.unitsOf_le_iff (f := fm n).mpr hr
    rw [un_eq, un_eq, fm_tl, show exN (tlN n) l = exN (tlN n) r by omega] at hU
    have := Nat.le_of_mul_le_mul_right hU (Nat.two_pow_pos _)
    omega
  · have h1 := sgN_ge (T := tlN n) (m := l) (by omega)
    have h2 := shd_lt (T := tlN n / 2) (m := 8 * sgN (tlN n) r) (by omega) h (by cases n <;> simp only [tlN, cond_true, cond_false] at * <;> omega)
    cases n <;> simp only [tlN, cond_true, cond_false] at * <;> omega
theorem s1_sum {n s t : Bool} {m k : Nat} (hm : m < ibN n) (hk : k < ibN n) : sX1_sum n (cdL n s m) (cdL n t k) = cdL n (adS s m t k) (adM (tlN n) (eiN n) s m t k) := by
  have hib := ib_lt n
  have h63 := hf_le n
  have hT := (tl_two n).1
  have hT5 := (tl_two n).2
  have hmh : m < hfN n := by omega
  have hkh : k < hfN n := by omega
  have hlt : sX1_size n (cdL n s m) < sX1_size n (cdL n t k) ↔ m < k := by rw [s1_size hmh, s1_size hkh]; exact nb_lt (by omega) (by omega)
  have hneg : ∀ (u : Bool) (j : Nat), j < hfN n → (if cdL n u j < (0 : Int64) then (1 : Int32) else 0) = if u = true then 1 else 0 := fun u j hj => by simp only [cd_neg hj]
  -- the greater one and the other
  obtain ⟨sl, l, sr, r, hrl, j1, j2, hl, hr, hlh, hsl, hml⟩ : ∃ (sl : Bool) (l : Nat) (sr : Bool) (r : Nat), r ≤ l ∧ sX1_sum_j1 n (cdL n s m) (cdL n t k) = cdL n sl l ∧ sX1_sum_j2 n (cdL n s m) (cdL n t k) = cdL n sr r ∧ max m k = l ∧ min m k = r ∧ l < hfN n ∧ (s = t → sl = s) ∧ (s ≠ t → m ≠ k → sl = adS s m t k) := by
    unfold sX1_sum_j1 sX1_sum_j2 adS
    by_cases h : m < k
    · rw [if_pos (hlt.mpr h), if_pos (hlt.mpr h)]
      exact ⟨t, k, s, m, by omega, rfl, rfl, by omega, by omega, hkh, fun h => h.symm, fun h1 h2 => by rw [if_neg h1, if_pos h]⟩
    · rw [if_neg (fun q => h (hlt.mp q)), if_neg (fun q => h (hlt.mp q))]
      exact ⟨s, m, t, k, by omega, rfl, rfl, by omega, by omega, hmh, fun _ => rfl, fun h1 h2 => by rw [if_neg h1, if_neg h, if_pos (by omega)]⟩
  have hsg : ∀ j, sgN (tlN n) j < 2 * tlN n := fun j => sgN_lt (by omega)
  have hex : exN (tlN n) l < 2 ^ 31 := by
    have h1 : l / tlN n < 2 ^ 31 := by cases n <;> simp only [cond_true, cond_false, tlN, hfN] at * <;> omega
    unfold exN
    generalize l / tlN n = q at *
    omega
  have he3 : sX1_sum_e3 n (cdL n s m) (cdL n t k) = lN (8 * sgN (tlN n) l) := by
    unfold sX1_sum_e3
    rw [j1, s1_sig hlh, c_cnt3, nb_shl _ (by decide)]
    exact congrArg lN (by omega)
  have he4 : sX1_sum_e4 n (cdL n s m) (cdL n t k) = lN (shd (8 * sgN (tlN n) r) (exN (tlN n) l - exN (tlN n) r)) := by
    unfold sX1_sum_e4
    have hrh : r < hfN n := by omega
    rw [j1, j2, s1_sig hrh, s1_exp hlh, s1_exp hrh, c_cnt3, nb_shl _ (by decide), nI_sub (exN_mono hrl) hex, s1_shd, Nat.mul_comm]
    · have := hsg r; omega
    · omega
  have hj7 : sX1_sum_j7 n (cdL n s m) (cdL n t k) = if s = t then 1 else 0 := by
    unfold sX1_sum_j7 sX1_sum_j5 sX1_sum_j6
    rw [hneg s m hmh, hneg t k hkh]
    cases s <;> cases t <;> rfl
  have hj8 : sX1_sum_j8 n (cdL n s m) (cdL n t k) = lN (tgN (tlN n) (s != t) l r) := by
    unfold sX1_sum_j8 tgN
    rw [hj7, he3, he4]
    by_cases h : s = t
    · subst h
      simp only [if_true, bne_self_eq_false, cond_false]
      rw [if_neg (by decide), nb_add]
    · rw [if_neg h, if_pos rfl, show (s != t) = true by cases s <;> cases t <;> simp_all, nb_sub (s1_most hrl)]
      rfl
  have hj9 : sX1_sum_j9 n (cdL n s m) (cdL n t k) = if sl = true then 1 else 0 := by
    unfold sX1_sum_j9
    rw [j1, hneg sl l hlh]
  have htg := tgN_lt (T := tlN n) (by omega) (s != t) l r
  unfold sX1_sum
  rw [if_pos ((s1_inf hmh).mpr (by omega)), if_pos ((s1_inf hkh).mpr (by omega)), hj8]
  have hz : lN (tgN (tlN n) (s != t) l r) = 0 ↔ tgN (tlN n) (s != t) l r = 0 := nb_inj (b := 0) (by omega) (by omega)
  unfold adM
  rw [hl, hr]
  have htok := (tg_ok (fm_good n) (fm_T n) (s != t) false hrl).1
  rw [fm_tl] at htok
  by_cases h0 : tgN (tlN n) (s != t) l r = 0
  · rw [if_pos (hz.mpr h0), if_pos h0, cd_and hmh hkh]
    congr 1
    unfold adS
    by_cases h : s = t
    · subst h; simp
    · have hzN := htok.mp h0
      rw [show (s != t) = true by cases s <;> cases t <;> simp_all] at hzN
      unfold zN at hzN
      simp only [cond_true] at hzN
      have : l ≤ r := FP.Core.unitsOf_le_iff (f := fm n).mp (by omega)
      rw [if_neg h, if_neg (by omega), if_neg (by omega)]
      cases s <;> cases t <;> simp_all
  · rw [if_neg (fun q => h0 (hz.mp q)), if_neg h0, j1, s1_exp hlh]
    have hexx : (nI (exN (tlN n) l)).toInt = (exN (tlN n) l : Int) := nI_int hex
    have hexb : exN (tlN n) l ≤ 80000 := by
      have h1 : l / tlN n ≤ 80000 := by cases n <;> simp only [cond_true, cond_false, tlN, hfN] at * <;> omega
      unfold exN
      generalize l / tlN n = q at *
      omega
    rw [s1_rounded htg (by omega) (by omega), hexx, s1_wsign]
    · congr 1
      rw [hj9]
      have hss : sl = adS s m t k := by
        by_cases h : s = t
        · rw [hsl h]; unfold adS; rw [if_pos h]
        · refine hml h (fun hmk => h0 (htok.mpr ?_))
          have hlr : l = r := by omega
          rw [show (s != t) = true by cases s <;> cases t <;> simp_all, hlr]
          unfold zN
          simp
      rw [← hss]
      cases sl <;> simp
    · have := rdN_le (T := tlN n) (EI := eiN n) (m := tgN (tlN n) (s != t) l r) (e := (exN (tlN n) l : Int)) (by omega) (by cases n <;> decide) htg
      rw [← ib_eq] at this
      omega
theorem s1_sumL {n s t : Bool} {k : Nat} : sX1_sum n (cdL n s (ibN n)) (cdL n t k) = cdL n s (ibN n) := by
  unfold sX1_sum
  rw [if_neg (fun h => (s1_inf (ib_lt n)).mp h rfl)]
theorem s1_sumR {n s t : Bool} {m : Nat} (hm : m < ibN n) : sX1_sum n (cdL n s m) (cdL n t (ibN n)) = cdL n t (ibN n) := by
  unfold sX1_sum
  rw [if_pos ((s1_inf (by have := ib_lt n; omega)).mpr (by omega)), if_neg (fun h => (s1_inf (ib_lt n)).mp h rfl)]
theorem s1_scaled {n s : Bool} {m : Nat} {p : Int32} (hm : m < ibN n) (h1 : -1000 ≤ p.toInt) (h2 : p.toInt ≤ 1000) : sX1_scaled n (cdL n s m) p = cdL n s (scN (tlN n) (eiN n) m p.toInt) := by
  have hib := ib_lt n
  have h63 := hf_le n
  have hT := (tl_two n).1
  have hT5 := (tl_two n).2
  have hmh : m < hfN n := by omega
  have hz : lN m = 0 ↔ m = 0 := nb_inj (b := 0) (by omega) (by omega)
  unfold sX1_scaled scN
  rw [s1_size hmh]
  by_cases h0 : m = 0
  · rw [if_pos (hz.mpr h0), if_pos h0, h0]
  · rw [if_neg (fun q => h0 (hz.mp q)), if_neg h0, if_pos ((s1_inf hmh).mpr (by omega)), s1_sig hmh, s1_exp hmh, c_cnt3, nb_shl _ (by decide)]
    have hexb : exN (tlN n) m ≤ 80000 := by
      have h1 : m / tlN n ≤ 80000 := by cases n <;> simp only [cond_true, cond_false, tlN, hfN] at * <;> omega
      unfold exN
      generalize m / tlN n = q at *
      omega
    have hsg := sgN_lt (T := tlN n) (m := m) (by omega)
    have hadd : (nI (exN (tlN n) m) + p).toInt = (exN (tlN n) m : Int) + p.toInt := by
      rw [Int32.toInt_add, nI_int (by omega), Int.bmod_def]; omega
    rw [show sgN (tlN n) m * 2 ^ 3 = 8 * sgN (tlN n) m by omega, s1_rounded (by omega) (by omega) (by omega), hadd, s1_wsign]
    · congr 1
      unfold sX1_scaled_j1
      simp only [cd_neg hmh]
      cases s <;> simp
    · have := rdN_le (T := tlN n) (EI := eiN n) (m := 8 * sgN (tlN n) m) (e := (exN (tlN n) m : Int) + p.toInt) (by omega) (by cases n <;> decide) (by omega)
      rw [← ib_eq] at this
      omega
theorem s1_scaledI {n s : Bool} {p : Int32} : sX1_scaled n (cdL n s (ibN n)) p = cdL n s (ibN n) := by
  have hib := ib_lt n
  have h63 := hf_le n
  unfold sX1_scaled
  rw [s1_size hib, if_neg (show ¬ lN (ibN n) = 0 from fun h => (show ibN n ≠ 0 by cases n <;> decide) ((nb_inj (b := 0) (by omega) (by omega)).mp h)), if_neg (fun h => (s1_inf hib).mp h rfl)]
