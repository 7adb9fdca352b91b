/-! The best balance and the reach are told alike. -/
theorem top_eq {σ : St} (hc : ∀ g, g < 16 → ¬ zCnt σ g < 0) {sN : Nat} (hs : sN < 4) (mo : Int32) : ∀ (k : Nat), k ≤ 4 → ∀ (b : Int32) (r : Int64), (b = -1 ∨ ∃ j, j < 16 ∧ b = nI j ∧ r = so_rank sN (zNow σ j)) → cTop σ mo sN k b r = mTop σ sN mo k b := by
  intro k
  induction k with
  | zero => intro _ b r _; rfl
  | succ k ih =>
    intro hk b r hb
    rw [cTop, mTop]
    have hJ : 4 * sN + (4 - (k + 1)) < 16 := by omega
    have hJ4 : (4 * sN + (4 - (k + 1))) / 4 = sN := by omega
    generalize 4 * sN + (4 - (k + 1)) = J at *
    have key : sX4_top_j2 σ mo J b r = sX5_top_j3 σ sN mo J b ∧ (sX4_top_j2 σ mo J b r = -1 ∨ ∃ j, j < 16 ∧ sX4_top_j2 σ mo J b r = nI j ∧ sX4_top_j3 σ mo J b r = so_rank sN (zNow σ j)) := by
      unfold sX4_top_j2 sX4_top_j3 sX5_top_j3
      rw [hJ4]
      by_cases h0 : zCnt σ J = 0
      · rw [if_pos h0, if_pos h0, if_neg (by rw [h0]; decide)]
        exact ⟨rfl, hb⟩
      · have hpos : 0 < zCnt σ J := by
          have h1 := hc J hJ
          rw [Int32.lt_iff_toInt_lt] at h1 ⊢
          have h2 : (zCnt σ J).toInt ≠ (0 : Int32).toInt := fun q => h0 (Int32.toInt_inj.mp q)
          omega
        rw [if_neg h0, if_neg h0, if_pos hpos]
        unfold sX5_top_j2
        rcases hb with hb | ⟨j, hj, hbj, hr⟩
        · subst hb
          rw [if_pos rfl, if_pos rfl, if_pos (by decide)]
          exact ⟨rfl, Or.inr ⟨J, hJ, rfl, rfl⟩⟩
        · have hall : ∀ j, j < 16 → ¬ nI j = (-1 : Int32) ∧ ¬ nI j < 0 ∧ (nI j).toNatClampNeg = j := by decide
          obtain ⟨a1, a2, a3⟩ := hall j hj
          subst hbj
          rw [if_neg a1, if_neg a1, if_neg a2]
          unfold sX4_top_j1 sX5_top_j1
          rw [if_neg a2, a3, ← e_rank hs, ← e_rank hs, ← hr, hJ4]
          by_cases hm : mo = 0
          · simp only [if_pos hm]
            by_cases hlt : so_rank sN (zNow σ J) < r
            · simp only [if_pos hlt, if_neg (show ¬ (1 : Int32) = 0 by decide)]
              exact ⟨trivial, Or.inr ⟨J, hJ, rfl, rfl⟩⟩
            · simp only [if_neg hlt, if_pos]
              exact ⟨trivial, Or.inr ⟨j, hj, rfl, hr⟩⟩
          · simp only [if_neg hm]
            by_cases hlt : r < so_rank sN (zNow σ J)
            · simp only [if_pos hlt, if_neg (show ¬ (1 : Int32) = 0 by decide)]
              exact ⟨trivial, Or.inr ⟨J, hJ, rfl, rfl⟩⟩
            · simp only [if_neg hlt, if_pos]
              exact ⟨trivial, Or.inr ⟨j, hj, rfl, hr⟩⟩
    rw [← key.1]
    exact ih (by omega) _ _ key.2
theorem reach_eq {σ : St} {n : Nat} {a b : Int32} (hS : okS σ n) (ha : vp_in a 16) (hb : vp_in b 16) (h1 : a / 4 = b / 4) (hj : sX5_reach_j1 σ a b = 0) : sX4_reach σ a b = sX5_reach σ a b ∧ (sX5_isWhole (a / 4) = 0 → okF (a / 4) (sX5_reach_e5 σ a b)) ∧ (sX5_isWhole (a / 4) = 0 → okF (a / 4) (sX5_reach_e4 σ a b)) ∧ (sX5_isWhole (a / 4) = 0 → vf_n64 (FP.dadd (sX5_real (a / 4) (sX5_reach_e4 σ a b)) (sX5_real (a / 4) (sX5_reach_e6 σ a b)))) := by
  have hK := k4 ha
  have h1' := h1
  rw [g4 ha, g4 hb, nI_inj4 (k4 ha) (k4 hb)] at h1'
  have na := (hS.2.2.2 _ (vp_lt ha)).1
  have nb := (hS.2.2.2 _ (vp_lt hb)).1
  rw [← h1'] at nb
  have e2 : sX5_reach_e2 σ a b = so_size (a.toNatClampNeg / 4) (zNow σ a.toNatClampNeg) := by unfold sX5_reach_e2; rw [g4 ha, e_size hK na]
  have e3 : sX5_reach_e3 σ a b = so_size (a.toNatClampNeg / 4) (zNow σ b.toNatClampNeg) := by unfold sX5_reach_e3; rw [g4 ha, e_size hK nb]
  have e4 : sX5_reach_e4 σ a b = so_greater (a.toNatClampNeg / 4) (so_size (a.toNatClampNeg / 4) (zNow σ a.toNatClampNeg)) (so_size (a.toNatClampNeg / 4) (zNow σ b.toNatClampNeg)) := by unfold sX5_reach_e4; rw [g4 ha, e2, e3, e_greater hK]
  have e5 : sX5_reach_e5 σ a b = so_lesser (a.toNatClampNeg / 4) (so_size (a.toNatClampNeg / 4) (zNow σ a.toNatClampNeg)) (so_size (a.toNatClampNeg / 4) (zNow σ b.toNatClampNeg)) := by unfold sX5_reach_e5; rw [g4 ha, e2, e3, e_lesser hK]
  unfold sX4_reach sX5_reach
  rw [hj, if_neg (by decide), ← e4, ← e5]
  unfold so_withHalf
  rw [g4 ha]
  by_cases h : a.toNatClampNeg / 4 < 2
  · rw [if_pos h, if_neg (wh_no h)]
    refine ⟨?_, fun q => absurd q (wh_no h), fun q => absurd q (wh_no h), fun q => absurd q (wh_no h)⟩
    unfold sX3_withHalf
    rw [wr_eq h]
  · -- both sizes are codes without a sign
    obtain ⟨s, m, hm, ea⟩ := na (by omega)
    obtain ⟨t, k, hk, eb⟩ := nb (by omega)
    have hib := ib_lt (soN (a.toNatClampNeg / 4))
    have sa : so_size (a.toNatClampNeg / 4) (zNow σ a.toNatClampNeg) = cdL (soN (a.toNatClampNeg / 4)) false m := by unfold so_size; rw [if_neg h, ea, s1_size (by omega)]; rfl
    have sb : so_size (a.toNatClampNeg / 4) (zNow σ b.toNatClampNeg) = cdL (soN (a.toNatClampNeg / 4)) false k := by unfold so_size; rw [if_neg h, eb, s1_size (by omega)]; rfl
    have pick : ∀ x, (x = cdL (soN (a.toNatClampNeg / 4)) false m ∨ x = cdL (soN (a.toNatClampNeg / 4)) false k) → ∃ j, j ≤ ibN (soN (a.toNatClampNeg / 4)) ∧ x = cdL (soN (a.toNatClampNeg / 4)) false j := fun x hx => by
      rcases hx with hx | hx
      · exact ⟨m, hm, hx⟩
      · exact ⟨k, hk, hx⟩
    obtain ⟨j4, hj4, f4⟩ := pick (sX5_reach_e4 σ a b) (by rw [e4, sa, sb]; unfold so_greater sX2_greater_P; rw [if_neg h]; split <;> simp)
    obtain ⟨j5, hj5, f5⟩ := pick (sX5_reach_e5 σ a b) (by rw [e5, sa, sb]; unfold so_lesser sX2_lesser_P; rw [if_neg h]; split <;> simp)
    have hmd := md_so (show 2 ≤ a.toNatClampNeg / 4 by omega) hK
    obtain ⟨j6, hj6, f6⟩ := c_scaled (s := false) (p := -1) hj5 (by decide) (by decide)
    have e6 : sX5_reach_e6 σ a b = cdL (soN (a.toNatClampNeg / 4)) false j6 := by unfold sX5_reach_e6; rw [g4 ha, hmd, f5, m_half hj5, f6]
    obtain ⟨g1, g2⟩ := m_add (s := false) (t := false) hj4 hj6 (fun _ _ => rfl)
    rw [if_neg h, hmd, if_pos (md_whole _), e6, f4, f5]
    refine ⟨?_, fun _ => okF_cd hj5, fun _ => okF_cd hj4, fun _ => g1⟩
    unfold sX1_withHalf
    rw [g2, f6]
