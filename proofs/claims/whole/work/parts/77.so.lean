/-! The same for the four sorts by their number. -/
def okV (k : Nat) (v : Int64) : Prop := 2 ≤ k → okC (soN k) v
theorem k_cases {P : Nat → Prop} (h0 : P 0) (h1 : P 1) (h2 : P 2) (h3 : P 3) {k : Nat} (hk : k < 4) : P k := by
  rcases (show k = 0 ∨ k = 1 ∨ k = 2 ∨ k = 3 by omega) with rfl | rfl | rfl | rfl <;> assumption
theorem wr_eq {k : Nat} (hk : k < 2) (v : Int64) : sX2_fromBits (soN k) v = sX5_wrapped (nI k) v := by
  rcases (show k = 0 ∨ k = 1 by omega) with rfl | rfl
  · unfold sX2_fromBits sX5_wrapped; rw [if_neg (by decide), if_pos (by decide)]
  · unfold sX2_fromBits sX5_wrapped; rw [if_pos (by decide), if_neg (by decide)]
theorem wh_no {k : Nat} (hk : k < 2) : ¬ sX5_isWhole (nI k) = 0 := by rcases (show k = 0 ∨ k = 1 by omega) with rfl | rfl <;> decide
theorem md_so {k : Nat} (h : 2 ≤ k) (hk : k < 4) : nI k = md (soN k) := by rcases (show k = 2 ∨ k = 3 by omega) with rfl | rfl <;> rfl
theorem wt_eq {k : Nat} (hk : k < 2) (v : Int64) : sX3_turn (soN k) v = sX5_turned (nI k) v := by
  unfold sX3_turn sX5_turned; rw [if_neg (wh_no hk), wr_eq hk]
theorem e_rank {k : Nat} (hk : k < 4) (v : Int64) : so_rank k v = sX5_rank (nI k) v := by
  unfold so_rank
  by_cases h : k < 2
  · rw [if_pos h]; unfold sX3_rank sX5_rank; rw [if_neg (wh_no h)]
  · rw [if_neg h, md_so (by omega) hk, m_rank]
theorem e_greater {k : Nat} (hk : k < 4) (v w : Int64) : so_greater k v w = sX5_greater (nI k) v w := by
  have a := e_rank hk v
  have b := e_rank hk w
  unfold so_rank at a b
  unfold so_greater sX5_greater
  rw [← a, ← b]
  by_cases h : k < 2
  · simp only [if_pos h]; rfl
  · simp only [if_neg h]; rfl
theorem e_lesser {k : Nat} (hk : k < 4) (v w : Int64) : so_lesser k v w = sX5_lesser (nI k) v w := by
  have a := e_rank hk v
  have b := e_rank hk w
  unfold so_rank at a b
  unfold so_lesser sX5_lesser
  rw [← a, ← b]
  by_cases h : k < 2
  · simp only [if_pos h]; rfl
  · simp only [if_neg h]; rfl
theorem e_turn {k : Nat} (hk : k < 4) {v : Int64} (hv : okV k v) : so_turn k v = sX5_turned (nI k) v := by
  unfold so_turn
  by_cases h : k < 2
  · rw [if_pos h, wt_eq h]
  · obtain ⟨s, m, hm, rfl⟩ := hv (by omega)
    have := ib_lt (soN k)
    rw [if_neg h, md_so (by omega) hk, m_turned (by omega), s1_turn (by omega)]
theorem v_turn {k : Nat} (hk : k < 4) {v : Int64} (hv : okV k v) : okV k (so_turn k v) := fun h => by
  obtain ⟨s, m, hm, rfl⟩ := hv h
  have := ib_lt (soN k)
  unfold so_turn
  rw [if_neg (by omega), s1_turn (by omega)]; exact ⟨_, _, hm, rfl⟩
theorem e_size {k : Nat} (hk : k < 4) {v : Int64} (hv : okV k v) : so_size k v = sX5_size (nI k) v := by
  unfold so_size
  by_cases h : k < 2
  · rw [if_pos h]; unfold sX3_size sX5_size; rw [wt_eq h]
  · obtain ⟨s, m, hm, rfl⟩ := hv (by omega)
    have := ib_lt (soN k)
    rw [if_neg h, md_so (by omega) hk, m_size (by omega), s1_size (by omega)]
theorem v_size {k : Nat} (hk : k < 4) {v : Int64} (hv : okV k v) : okV k (so_size k v) := fun h => by
  obtain ⟨s, m, hm, rfl⟩ := hv h
  have := ib_lt (soN k)
  unfold so_size
  rw [if_neg (by omega), s1_size (by omega)]; exact ⟨false, _, hm, rfl⟩
theorem wz_eq {k : Nat} (hk : k < 2) (v : Int64) (j : Int32) : sX5_cut (nI k) v j = v := by unfold sX5_cut; rw [if_neg (wh_no hk)]
theorem e_cut {k : Nat} (hk : k < 4) {v : Int64} (hv : okV k v) : so_down k v = sX5_cut (nI k) v (-1) ∧ so_up k v = sX5_cut (nI k) v 1 ∧ so_near k v = sX5_cut (nI k) v 0 := by
  unfold so_down so_up so_near
  by_cases h : k < 2
  · rw [if_pos h, if_pos h, if_pos h, wz_eq h, wz_eq h, wz_eq h]; exact ⟨rfl, rfl, rfl⟩
  · obtain ⟨h1, h2, h3⟩ := m_cut (hv (by omega))
    rw [if_neg h, if_neg h, if_neg h, md_so (by omega) hk, h1, h2, h3]; exact ⟨rfl, rfl, rfl⟩
theorem v_cut {k : Nat} (hk : k < 4) {v : Int64} (hv : okV k v) : okV k (so_down k v) ∧ okV k (so_up k v) ∧ okV k (so_near k v) := by
  unfold so_down so_up so_near
  refine ⟨fun h => ?_, fun h => ?_, fun h => ?_⟩ <;> obtain ⟨s, m, hm, rfl⟩ := hv h
  · rw [if_neg (by omega), s1_down hm]; exact ⟨_, _, c_w hm, rfl⟩
  · rw [if_neg (by omega), s1_up hm]; exact ⟨_, _, c_w hm, rfl⟩
  · rw [if_neg (by omega), s1_near hm]; exact ⟨_, _, c_w hm, rfl⟩
theorem e_sign {k : Nat} (hk : k < 4) {v : Int64} (hv : okV k v) : so_sign k v = sX5_signOf (nI k) v := by
  unfold so_sign
  by_cases h : k < 2
  · rw [if_pos h]
    unfold sX3_sign sX5_signOf sX5_isZero sX5_signOf_j1
    simp only [if_neg (wh_no h)]
    by_cases h0 : v = 0
    · rw [if_pos h0, if_pos h0, if_neg (by decide), h0]
    · rw [if_neg h0, if_neg h0, if_pos rfl]
      by_cases h1 : (0 : Int64) < v
      · rw [if_pos h1, if_neg (fun q => by have a := Int64.lt_iff_toInt_lt.mp h1; have b := Int64.lt_iff_toInt_lt.mp q; omega)]
      · rw [if_neg h1, if_pos]
        rw [Int64.lt_iff_toInt_lt] at h1 ⊢
        have : v.toInt ≠ (0 : Int64).toInt := fun q => h0 (Int64.toInt_inj.mp q)
        omega
  · obtain ⟨s, m, hm, rfl⟩ := hv (by omega)
    have := ib_lt (soN k)
    rw [if_neg h, md_so (by omega) hk, m_sign (by omega)]
theorem v_sign {k : Nat} (hk : k < 4) {v : Int64} (hv : okV k v) : okV k (so_sign k v) := fun h => by
  obtain ⟨s, m, hm, rfl⟩ := hv h
  have := ib_lt (soN k)
  have := one_lt (soN k)
  unfold so_sign
  rw [if_neg (by omega)]
  unfold sX1_sign
  split
  · exact ⟨_, _, hm, rfl⟩
  · rw [one_eq, s1_wsign (by omega)]; exact ⟨_, _, by omega, rfl⟩
theorem e_like {k : Nat} (hk : k < 4) {v w : Int64} (hv : okV k v) (hw : okV k w) : so_like k v w = (if w < 0 then sX5_turned (nI k) (sX5_size (nI k) v) else sX5_size (nI k) v) := by
  have hs := e_size hk hv
  unfold so_like
  by_cases h : k < 2
  · unfold so_size at hs
    rw [if_pos h] at hs
    rw [if_pos h]; unfold sX3_like; rw [wt_eq h, hs]
  · obtain ⟨s, m, hm, rfl⟩ := hv (by omega)
    obtain ⟨t, j, hj, rfl⟩ := hw (by omega)
    have := ib_lt (soN k)
    rw [if_neg h, md_so (by omega) hk, m_like (by omega) (by omega)]
theorem v_like {k : Nat} (hk : k < 4) {v w : Int64} (hv : okV k v) : okV k (so_like k v w) := fun h => by
  obtain ⟨s, m, hm, rfl⟩ := hv h
  have := ib_lt (soN k)
  unfold so_like
  rw [if_neg (by omega)]
  unfold sX1_like
  rw [s1_size (by omega), s1_wsign (by omega)]; exact ⟨_, _, hm, rfl⟩
theorem v_greater {k : Nat} {v w : Int64} (hv : okV k v) (hw : okV k w) : okV k (so_greater k v w) := by
  unfold so_greater sX2_greater_W sX2_greater_P
  (repeat' split) <;> assumption
theorem v_lesser {k : Nat} {v w : Int64} (hv : okV k v) (hw : okV k w) : okV k (so_lesser k v w) := by
  unfold so_lesser sX2_lesser_W sX2_lesser_P
  (repeat' split) <;> assumption
theorem e_step {k : Nat} (hk : k < 4) {v : Int64} {p : Int32} (hv : okV k v) (hp : okP p) : so_step k v p = sX5_step (nI k) v p ∧ okV k (so_step k v p) := by
  unfold so_step
  by_cases h : k < 2
  · rw [if_pos h]
    refine ⟨?_, fun q => absurd q (by omega)⟩
    unfold sX3_step sX5_step
    rw [if_neg (wh_no h)]
    have c1 : 0 < p ↔ 0 < p.toInt := Int32.lt_iff_toInt_lt
    have c2 : p < 0 ↔ p.toInt < 0 := Int32.lt_iff_toInt_lt
    by_cases h1 : 0 < p.toInt
    · rw [if_pos (c1.mpr h1), if_neg (fun q => by have := c2.mp q; omega)]
    · rw [if_neg (fun q => h1 (c1.mp q))]
      by_cases h2 : p.toInt < 0
      · rw [if_pos (c2.mpr h2)]
      · rw [if_neg (fun q => h2 (c2.mp q))]
        have : p = 0 := Int32.toInt_inj.mp (by rw [show (0 : Int32).toInt = 0 from rfl]; omega)
        subst this
        rw [show ((0 : Int32).toInt64 &&& 63) = 0 by decide]
        simp
  · obtain ⟨h1, h2⟩ := m_step (hv (by omega)) hp
    rw [if_neg h, md_so (by omega) hk, h1]
    exact ⟨rfl, fun _ => h2⟩
theorem e_apart {k : Nat} (hk : k < 4) {v w : Int64} (hv : okV k v) (hw : okV k w) : sX5_areApart (nI k) v w = 0 ↔ ¬ so_canMeet k v w = 0 := by
  unfold so_canMeet
  by_cases h : k < 2
  · rw [if_pos h]; unfold sX5_areApart sX3_canMeet; rw [if_neg (wh_no h)]; decide
  · obtain ⟨s, m, hm, rfl⟩ := hv (by omega)
    obtain ⟨t, j, hj, rfl⟩ := hw (by omega)
    have := ib_lt (soN k)
    rw [if_neg h, md_so (by omega) hk, m_apart (by omega) (by omega)]
theorem e_meet {k : Nat} (hk : k < 4) {v w : Int64} (hv : okV k v) (hw : okV k w) (ha : ¬ so_canMeet k v w = 0) : so_meet k v w = sX5_meet (nI k) v w ∧ okV k (so_meet k v w) ∧ (2 ≤ k → vf_n64 (FP.dadd (sX5_real (nI k) v) (sX5_real (nI k) w))) := by
  unfold so_meet
  by_cases h : k < 2
  · rw [if_pos h]
    refine ⟨?_, fun q => absurd q (by omega), fun q => absurd q (by omega)⟩
    unfold sX3_meet sX5_meet
    rw [if_neg (wh_no h), wr_eq h]
  · unfold so_canMeet at ha
    rw [if_neg h] at ha
    obtain ⟨h1, h2, h3⟩ := m_meet (hv (by omega)) (hw (by omega)) ha
    rw [if_neg h, md_so (by omega) hk, h2]
    exact ⟨rfl, fun _ => h3, fun _ => h1⟩
theorem e_part {k : Nat} (hk : k < 4) {v : Int64} (hv : okV k v) : so_part k v = sX5_part (nI k) v ∧ okV k (so_part k v) ∧ (2 ≤ k → sX5_isInfinite (nI k) v = 0 → vf_n64 (FP.dsub (sX5_real (nI k) v) (sX5_real (nI k) (sX5_cut (nI k) v (-1 : Int32))))) := by
  unfold so_part
  by_cases h : k < 2
  · rw [if_pos h]
    refine ⟨?_, fun q => absurd q (by omega), fun q => absurd q (by omega)⟩
    unfold sX3_part sX5_part
    rw [if_neg (wh_no h)]
  · obtain ⟨h1, h2, h3⟩ := m_part (hv (by omega))
    rw [if_neg h, md_so (by omega) hk, h2]
    exact ⟨rfl, fun _ => h3, fun _ => h1⟩
theorem e_change {k : Nat} (hk : k < 4) {v w : Int64} (hv : okV k v) (hw : okV k w) : so_change k v w = sX5_less (nI k) w v ∧ okV k (so_change k v w) ∧ (2 ≤ k → (sX5_isInfinite (nI k) w = 0 ∨ ¬ w = v) → vf_n64 (FP.dsub (sX5_real (nI k) w) (sX5_real (nI k) v))) := by
  unfold so_change
  by_cases h : k < 2
  · rw [if_pos h]
    refine ⟨?_, fun q => absurd q (by omega), fun q => absurd q (by omega)⟩
    unfold sX3_change sX5_less
    rw [if_neg (wh_no h), wr_eq h]
  · obtain ⟨h1, h2, h3⟩ := m_less (hw (by omega)) (hv (by omega))
    rw [if_neg h, md_so (by omega) hk, h2]
    exact ⟨rfl, fun _ => h3, fun _ => h1⟩
theorem okV_F {k : Nat} (hk : k < 4) {v : Int64} (hv : okV k v) : sX5_isWhole (nI k) = 0 → okF (nI k) v := fun h => by
  have h2 : 2 ≤ k := Nat.le_of_not_lt (fun q => wh_no (by omega) h)
  rw [md_so h2 hk]; exact okC_F (hv h2)
