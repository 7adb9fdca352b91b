/-! Readings are taken alike. -/
theorem updL_same (f : Nat → Int64) (i : Nat) : vp_updL f i (f i) = f := by
  funext j
  unfold vp_updL
  split
  · rename_i h; rw [h]
  · rfl
theorem updL_at (f : Nat → Int64) (i j : Nat) (v : Int64) : vp_updL f i v j = if j = i then v else f j := rfl
def tkSt (σ : St) (g : Int32) (v : Int64) : St := zBal σ g.toNatClampNeg (rX0_take_c (g.toNatClampNeg / 4) (zCnt σ g.toNatClampNeg) (zNow σ g.toNatClampNeg) (zLst σ g.toNatClampNeg) (zGst σ g.toNatClampNeg) (zSwg σ g.toNatClampNeg) (zTrd σ g.toNatClampNeg) v) (rX0_take_n (g.toNatClampNeg / 4) (zCnt σ g.toNatClampNeg) (zNow σ g.toNatClampNeg) (zLst σ g.toNatClampNeg) (zGst σ g.toNatClampNeg) (zSwg σ g.toNatClampNeg) (zTrd σ g.toNatClampNeg) v) (rX0_take_l (g.toNatClampNeg / 4) (zCnt σ g.toNatClampNeg) (zNow σ g.toNatClampNeg) (zLst σ g.toNatClampNeg) (zGst σ g.toNatClampNeg) (zSwg σ g.toNatClampNeg) (zTrd σ g.toNatClampNeg) v) (rX0_take_h (g.toNatClampNeg / 4) (zCnt σ g.toNatClampNeg) (zNow σ g.toNatClampNeg) (zLst σ g.toNatClampNeg) (zGst σ g.toNatClampNeg) (zSwg σ g.toNatClampNeg) (zTrd σ g.toNatClampNeg) v) (rX0_take_w (g.toNatClampNeg / 4) (zCnt σ g.toNatClampNeg) (zNow σ g.toNatClampNeg) (zLst σ g.toNatClampNeg) (zGst σ g.toNatClampNeg) (zSwg σ g.toNatClampNeg) (zTrd σ g.toNatClampNeg) v) (rX0_take_t (g.toNatClampNeg / 4) (zCnt σ g.toNatClampNeg) (zNow σ g.toNatClampNeg) (zLst σ g.toNatClampNeg) (zGst σ g.toNatClampNeg) (zSwg σ g.toNatClampNeg) (zTrd σ g.toNatClampNeg) v)
theorem take_eq {σ : St} {n : Nat} {g : Int32} {v : Int64} (hS : okS σ n) (hg : vp_in g 16) (hv : okV (g.toNatClampNeg / 4) v) : tkSt σ g v = tX5_take σ g v ∧ takeOK σ g v ∧ okS (tkSt σ g v) n := by
  have hK := k4 hg
  have hG := vp_lt hg
  obtain ⟨n1, n2, n3, n4⟩ := hS.2.2.2 _ hG
  obtain ⟨c1, c2, c3⟩ := e_change hK n1 hv
  have hw2 : sX5_isWhole (nI (g.toNatClampNeg / 4)) = 0 → 2 ≤ g.toNatClampNeg / 4 := fun h => Nat.le_of_not_lt (fun q => wh_no q h)
  refine ⟨?_, ?_, ?_⟩
  · unfold tkSt tX5_take zBal rX0_take_c rX0_take_n rX0_take_l rX0_take_h rX0_take_w rX0_take_t sX5_take_e1
    rw [g4 hg]
    by_cases h0 : zCnt σ g.toNatClampNeg = 0
    · simp only [if_pos h0, updL_same]
    · simp only [if_neg h0]
      rw [c1, e_lesser hK, e_greater hK, e_greater hK, e_sign hK (by rw [← c1]; exact c2), e_size hK (by rw [← c1]; exact c2)]
  · unfold takeOK
    rw [g4 hg]
    exact ⟨hg, okV_F hK hv, fun _ => okV_F hK n1, fun _ q => c3 (hw2 q)⟩
  · refine ⟨hS.1, hS.2.1, hS.2.2.1, fun j hj => ?_⟩
    obtain ⟨m1, m2, m3, m4⟩ := hS.2.2.2 j hj
    show okV (j / 4) (vp_updL (zNow σ) g.toNatClampNeg _ j) ∧ okV (j / 4) (vp_updL (zLst σ) g.toNatClampNeg _ j) ∧ okV (j / 4) (vp_updL (zGst σ) g.toNatClampNeg _ j) ∧ okV (j / 4) (vp_updL (zSwg σ) g.toNatClampNeg _ j)
    rw [updL_at, updL_at, updL_at, updL_at]
    by_cases h : j = g.toNatClampNeg
    · subst h
      rw [if_pos rfl, if_pos rfl, if_pos rfl, if_pos rfl]
      unfold rX0_take_n rX0_take_l rX0_take_h rX0_take_w
      by_cases h0 : zCnt σ g.toNatClampNeg = 0
      · simp only [if_pos h0]; exact ⟨hv, hv, hv, n4⟩
      · simp only [if_neg h0]; exact ⟨hv, v_lesser n2 hv, v_greater n3 hv, v_greater n4 (v_size hK c2)⟩
    · rw [if_neg h, if_neg h, if_neg h, if_neg h]; exact ⟨m1, m2, m3, m4⟩
theorem fb_eq {g : Int32} (hg : vp_in g 16) (σ : St) (v : Int64) : so_fromBits (g.toNatClampNeg / 4) v = sX5_read_j1 σ g v := by
  have hK := k4 hg
  unfold so_fromBits sX5_read_j1 sX2_fromBits
  rw [g4 hg]
  generalize g.toNatClampNeg / 4 = k at *
  rcases (show k = 0 ∨ k = 1 ∨ k = 2 ∨ k = 3 by omega) with rfl | rfl | rfl | rfl
  · rw [if_pos (by decide), if_neg (by decide), if_pos (by decide)]
  · rw [if_pos (by decide), if_pos (by decide), if_neg (by decide), if_neg (by decide)]
  · rw [if_neg (by decide), if_neg (by decide), if_neg (by decide), if_pos (by decide)]
  · rw [if_neg (by decide), if_pos (by decide), if_neg (by decide), if_neg (by decide)]
theorem none_eq {k : Nat} (hk : k < 4) (v : Int64) : (sX5_isNone (nI k) (so_fromBits k v) = 0 ↔ ¬ so_isNumber k (so_fromBits k v) = 0) ∧ (¬ so_isNumber k (so_fromBits k v) = 0 → okV k (so_fromBits k v)) := by
  by_cases h : k < 2
  · refine ⟨?_, fun _ q => absurd q (by omega)⟩
    unfold so_isNumber
    rw [if_pos h]
    unfold sX5_isNone sX3_isNumber
    rcases (show k = 0 ∨ k = 1 by omega) with rfl | rfl
    · rw [if_neg (by decide), if_neg (by decide)]; decide
    · rw [if_neg (by decide), if_neg (by decide)]; decide
  · have hfb : so_fromBits k v = sX2_fromBits (soN k) v := by unfold so_fromBits; rw [if_neg h]
    obtain ⟨s, m, hm, e⟩ := cd_all (soN k) v
    unfold so_isNumber
    rw [if_neg h, hfb, e, md_so (by omega) hk, m_isNone hm, s1_isNumber hm]
    refine ⟨by omega, fun q _ => ⟨s, m, by omega, rfl⟩⟩
