/-! The same: sums, products, whole numbers. -/
def okC (n : Bool) (v : Int64) : Prop := ∃ s m, m ≤ ibN n ∧ v = cdL n s m
theorem okC_F {n : Bool} {v : Int64} (h : okC n v) : okF (md n) v := by obtain ⟨s, m, hm, rfl⟩ := h; exact okF_cd hm
theorem c_sum {n s t : Bool} {m k : Nat} (hm : m ≤ ibN n) (hk : k ≤ ibN n) : okC n (sX1_sum n (cdL n s m) (cdL n t k)) := by
  by_cases h1 : m = ibN n
  · subst h1; rw [s1_sumL]; exact ⟨_, _, Nat.le_refl _, rfl⟩
  · by_cases h2 : k = ibN n
    · subst h2; rw [s1_sumR (by omega)]; exact ⟨_, _, Nat.le_refl _, rfl⟩
    · rw [s1_sum (by omega) (by omega)]; exact ⟨_, _, adM_le _ _ _ _ _, rfl⟩
theorem c_scaled {n s : Bool} {m : Nat} {p : Int32} (hm : m ≤ ibN n) (h1 : -100 ≤ p.toInt) (h2 : p.toInt ≤ 100) : ∃ m', m' ≤ ibN n ∧ sX1_scaled n (cdL n s m) p = cdL n s m' := by
  by_cases h : m = ibN n
  · subst h; rw [s1_scaledI]; exact ⟨_, Nat.le_refl _, rfl⟩
  · rw [s1_scaled (by omega) (by omega) (by omega)]; exact ⟨_, scN_le _ _ _, rfl⟩
theorem c_w {n s : Bool} {m : Nat} {k : Int32} (hm : m ≤ ibN n) : wN n s k m ≤ ibN n := by
  rcases Nat.lt_or_ge m (ibN n) with h | h
  · have := wN_lt (s := s) (k := k) h; omega
  · rw [show m = ibN n by omega, wN_inf]; exact Nat.le_refl _
theorem m_add {n s t : Bool} {m k : Nat} (hm : m ≤ ibN n) (hk : k ≤ ibN n) (hns : m = ibN n → k = ibN n → s = t) : vf_n64 (FP.dadd (sX5_real (md n) (cdL n s m)) (sX5_real (md n) (cdL n t k))) ∧ sX5_bits (md n) (FP.dadd (sX5_real (md n) (cdL n s m)) (sX5_real (md n) (cdL n t k))) = sX1_sum n (cdL n s m) (cdL n t k) :=
  sum_eq hm hk hns (by rw [show ∀ a b, FP.dadd a b = FP.Core.dadd a b from fun _ _ => rfl, FP.Core.val64_dadd, real_val hm, real_val hk])
theorem m_subt {n s t : Bool} {m k : Nat} (hm : m ≤ ibN n) (hk : k ≤ ibN n) (hns : m = ibN n → k = ibN n → s = !t) : vf_n64 (FP.dsub (sX5_real (md n) (cdL n s m)) (sX5_real (md n) (cdL n t k))) ∧ sX5_bits (md n) (FP.dsub (sX5_real (md n) (cdL n s m)) (sX5_real (md n) (cdL n t k))) = sX1_sum n (cdL n s m) (sX1_turn n (cdL n t k)) := by
  have hib := ib_lt n
  rw [s1_turn (by omega)]
  exact sum_eq hm hk hns (by rw [show ∀ a b, FP.dsub a b = FP.Core.dsub a b from fun _ _ => rfl, FP.Core.val64_dsub, real_val hm, real_val hk, dv_neg (by omega)])
theorem v_half : FP.Core.val64 4602678819172646912 = .fin false (2 ^ 52) (-1 - (52 : Nat)) := by decide +kernel
theorem v_pow {k : Int32} (hk : okP k) : FP.Core.val64 (sX5_power k) = .fin false (2 ^ 52) (k.toInt - (52 : Nat)) := okP_cases (P := fun k => FP.Core.val64 (sX5_power k) = .fin false (2 ^ 52) (k.toInt - (52 : Nat))) (by decide +kernel) hk
theorem m_half {n s : Bool} {m : Nat} (hm : m ≤ ibN n) : sX5_bits (md n) (FP.dmul (sX5_real (md n) (cdL n s m)) 4602678819172646912) = sX1_scaled n (cdL n s m) (-1) :=
  (prod_eq (a := 52) (p := -1) hm (by decide) (by decide) (by rw [show ∀ a b, FP.dmul a b = FP.Core.dmul a b from fun _ _ => rfl, FP.Core.val64_dmul, real_val hm, v_half]; rfl)).2
theorem m_mulp {n s : Bool} {m : Nat} {k : Int32} (hm : m ≤ ibN n) (hk : okP k) : sX5_bits (md n) (FP.dmul (sX5_real (md n) (cdL n s m)) (sX5_power k)) = sX1_scaled n (cdL n s m) k := by
  have h1 : (-10 : Int) ≤ k.toInt := Int32.le_iff_toInt_le.mp hk.1
  have h2 : k.toInt ≤ (10 : Int) := Int32.le_iff_toInt_le.mp hk.2
  exact (prod_eq (a := 52) (p := k) hm (by omega) (by omega) (by rw [show ∀ a b, FP.dmul a b = FP.Core.dmul a b from fun _ _ => rfl, FP.Core.val64_dmul, real_val hm, v_pow hk])).2
theorem m_cut {n : Bool} {v : Int64} (h : okC n v) : sX5_cut (md n) v (-1) = sX1_down n v ∧ sX5_cut (md n) v 1 = sX1_up n v ∧ sX5_cut (md n) v 0 = sX1_near n v := by
  obtain ⟨s, m, hm, rfl⟩ := h
  rw [cut_eq _ hm, cut_eq _ hm, cut_eq _ hm, s1_down hm, s1_up hm, s1_near hm]
  exact ⟨rfl, rfl, rfl⟩
theorem m_step {n : Bool} {v : Int64} {k : Int32} (h : okC n v) (hk : okP k) : sX5_step (md n) v k = sX1_step n v k ∧ okC n (sX1_step n v k) := by
  obtain ⟨s, m, hm, rfl⟩ := h
  have hk' := okP_neg hk
  have b1 : (-10 : Int) ≤ k.toInt := Int32.le_iff_toInt_le.mp hk.1
  have b2 : k.toInt ≤ (10 : Int) := Int32.le_iff_toInt_le.mp hk.2
  have b3 : (-10 : Int) ≤ (-k).toInt := Int32.le_iff_toInt_le.mp hk'.1
  have b4 : (-k).toInt ≤ (10 : Int) := Int32.le_iff_toInt_le.mp hk'.2
  obtain ⟨m1, hm1, e1⟩ := c_scaled (s := s) (p := -k) hm (by omega) (by omega)
  have he1 : sX5_step_e1 (md n) (cdL n s m) k = cdL n s m1 := by unfold sX5_step_e1; rw [m_mulp hm hk', e1]
  have he2 : sX5_step_e2 (md n) (cdL n s m) k = cdL n s (wN n s 0 m1) := by unfold sX5_step_e2; rw [he1, cut_eq _ hm1]
  obtain ⟨m2, hm2, e2⟩ := c_scaled (s := s) (p := k) (c_w (s := s) (k := 0) hm1) (by omega) (by omega)
  have hst : sX1_step n (cdL n s m) k = cdL n s m2 := by unfold sX1_step; rw [e1, s1_near hm1, e2]
  refine ⟨?_, by rw [hst]; exact ⟨_, _, hm2, rfl⟩⟩
  unfold sX5_step
  rw [if_pos (md_whole n), he2, m_mulp (c_w hm1) hk, e2, hst]
theorem m_meet {n : Bool} {v w : Int64} (h : okC n v) (h' : okC n w) (ha : ¬ sX1_canMeet n v w = 0) : vf_n64 (FP.dadd (sX5_real (md n) v) (sX5_real (md n) w)) ∧ sX5_meet (md n) v w = sX1_meet n v w ∧ okC n (sX1_meet n v w) := by
  obtain ⟨s, m, hm, rfl⟩ := h
  obtain ⟨t, k, hk, rfl⟩ := h'
  have hib := ib_lt n
  have hns : m = ibN n → k = ibN n → s = t := fun h1 h2 => by
    unfold sX1_canMeet at ha
    rw [if_neg (fun q => (s1_inf (by omega)).mp q h1), if_neg (fun q => (s1_inf (by omega)).mp q h2)] at ha
    by_cases q : cdL n s m = cdL n t k
    · exact ((cd_inj (by omega) (by omega)).mp q).1
    · rw [if_neg q] at ha; exact absurd rfl ha
  obtain ⟨g1, g2⟩ := m_add hm hk hns
  obtain ⟨u, j, hj, hu⟩ := c_sum (s := s) (t := t) hm hk
  obtain ⟨j', hj', e⟩ := c_scaled (s := u) (p := -1) hj (by decide) (by decide)
  refine ⟨g1, ?_, ?_⟩
  · unfold sX5_meet sX5_meet_e1 sX1_meet
    rw [if_pos (md_whole n), g2, hu, m_half hj]
  · unfold sX1_meet
    rw [hu, e]; exact ⟨_, _, hj', rfl⟩
theorem m_part {n : Bool} {v : Int64} (h : okC n v) : (sX5_isInfinite (md n) v = 0 → vf_n64 (FP.dsub (sX5_real (md n) v) (sX5_real (md n) (sX5_cut (md n) v (-1 : Int32))))) ∧ sX5_part (md n) v = sX1_part n v ∧ okC n (sX1_part n v) := by
  obtain ⟨s, m, hm, rfl⟩ := h
  have hib := ib_lt n
  have hmh : m < hfN n := by omega
  have h0 : 0 < hfN n := by omega
  have hw := c_w (s := s) (k := -1) hm
  have hsub : sX1_isInfinite n (cdL n s m) = 0 → vf_n64 (FP.dsub (sX5_real (md n) (cdL n s m)) (sX5_real (md n) (cdL n s (wN n s (-1) m)))) ∧ sX5_bits (md n) (FP.dsub (sX5_real (md n) (cdL n s m)) (sX5_real (md n) (cdL n s (wN n s (-1) m)))) = sX1_sum n (cdL n s m) (sX1_turn n (cdL n s (wN n s (-1) m))) := fun q =>
    m_subt hm hw (fun h1 _ => absurd h1 ((s1_inf hmh).mp q))
  rw [cut_eq _ hm, m_isInf]
  refine ⟨fun q => (hsub q).1, ?_, ?_⟩
  · unfold sX5_part sX1_part sX1_part_j1
    rw [if_pos (md_whole n), m_isInf, cut_eq _ hm, s1_down hm]
    by_cases q : sX1_isInfinite n (cdL n s m) = 0
    · rw [if_pos q, if_pos q, (hsub q).2]
    · rw [if_neg q, if_neg q, show (0 : Int64) = lN 0 from rfl, s1_wsign h0, ← cd_lN (n := n), m_turned h0]
      rw [show cdL n false 0 = (0 : Int64) from rfl]
      simp only [cd_neg hmh]
      cases s <;> simp <;> rfl
  · unfold sX1_part sX1_part_j1
    rw [s1_down hm, s1_turn (by omega)]
    by_cases q : sX1_isInfinite n (cdL n s m) = 0
    · rw [if_pos q]; exact c_sum hm hw
    · rw [if_neg q, show (0 : Int64) = lN 0 from rfl, s1_wsign h0]; exact ⟨_, _, by omega, rfl⟩
theorem m_less {n : Bool} {v w : Int64} (h : okC n v) (h' : okC n w) : ((sX5_isInfinite (md n) v = 0 ∨ ¬ v = w) → vf_n64 (FP.dsub (sX5_real (md n) v) (sX5_real (md n) w))) ∧ sX5_less (md n) v w = sX1_change n w v ∧ okC n (sX1_change n w v) := by
  obtain ⟨s, m, hm, rfl⟩ := h
  obtain ⟨t, k, hk, rfl⟩ := h'
  have hib := ib_lt n
  have hmh : m < hfN n := by omega
  have hkh : k < hfN n := by omega
  have hns : (sX1_isInfinite n (cdL n s m) = 0 ∨ ¬ cdL n s m = cdL n t k) → m = ibN n → k = ibN n → s = !t := fun q h1 h2 => by
    rcases q with q | q
    · exact absurd h1 ((s1_inf hmh).mp q)
    · have : s ≠ t := fun e => q (by rw [e, h1, h2])
      cases s <;> cases t <;> simp_all
  have hcom : ∀ a b : Int64, (a = b) = (b = a) := fun a b => propext ⟨Eq.symm, Eq.symm⟩
  rw [m_isInf]
  refine ⟨fun q => (m_subt hm hk (hns q)).1, ?_, ?_⟩
  · unfold sX5_less sX1_change sX1_change_j1
    rw [if_pos (md_whole n), m_isInf]
    by_cases q : sX1_isInfinite n (cdL n s m) = 0
    · rw [if_pos q, if_pos q, if_pos rfl, (m_subt hm hk (hns (Or.inl q))).2]
    · rw [if_neg q, if_neg q]
      by_cases e : cdL n s m = cdL n t k
      · rw [if_pos e, if_pos e.symm, if_neg (by decide)]
      · rw [if_neg e, if_neg (show ¬ cdL n t k = cdL n s m from fun x => e x.symm), if_pos rfl, (m_subt hm hk (hns (Or.inr e))).2]
  · unfold sX1_change sX1_change_j1
    rw [s1_turn hkh]
    by_cases q : (if sX1_isInfinite n (cdL n s m) = 0 then (0 : Int32) else (if cdL n t k = cdL n s m then (1 : Int32) else (0 : Int32))) = 0
    · rw [if_pos q]; exact c_sum hm hk
    · rw [if_neg q]; exact ⟨false, 0, by omega, rfl⟩
