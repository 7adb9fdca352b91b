/-! One call: both sides agree. -/
/-- what holds of the state before the call number j -/
def Inv (σ : St) (j : Nat) : Prop := (∃ n, okS σ n) ∧ ∀ g, g < 16 → 0 ≤ (zCnt σ g).toInt ∧ (zCnt σ g).toInt ≤ (j : Int)
theorem Inv.mono {σ : St} {j : Nat} (h : Inv σ j) : Inv σ (j + 1) := ⟨h.1, fun g hg => ⟨(h.2 g hg).1, by have := (h.2 g hg).2; omega⟩⟩
theorem Inv.rfs {σ : St} {j : Nat} (x : Int32) (h : Inv σ j) : Inv (zSetRfs σ x) j := ⟨⟨h.1.choose, okS_rfs h.1.choose_spec⟩, h.2⟩
theorem isB_no {g : Int32} (h : ¬ vp_in g 16) : sX5_isBalance g = 0 := by
  unfold sX5_isBalance
  by_cases h1 : g < 0
  · rw [if_pos h1]
  · rw [if_neg h1]
    by_cases h2 : g < (16 : Int32)
    · refine absurd (vp_in_iff.mpr ?_) h
      rw [Int32.lt_iff_toInt_lt] at h1 h2
      have e0 : (0 : Int32).toInt = 0 := by decide
      have e1 : (16 : Int32).toInt = 16 := by decide
      omega
    · rw [if_neg h2]
theorem cnt_take {σ : St} {g : Int32} {v : Int64} {j : Nat} (hj : j ≤ 4096) (hg : vp_in g 16) (h : ∀ i, i < 16 → 0 ≤ (zCnt σ i).toInt ∧ (zCnt σ i).toInt ≤ (j : Int)) : ∀ i, i < 16 → 0 ≤ (zCnt (tkSt σ g v) i).toInt ∧ (zCnt (tkSt σ g v) i).toInt ≤ ((j + 1 : Nat) : Int) := by
  intro i hi
  have e : zCnt (tkSt σ g v) i = if i = g.toNatClampNeg then zCnt σ g.toNatClampNeg + 1 else zCnt σ i := by
    show upd (zCnt σ) g.toNatClampNeg _ i = _
    unfold upd rX0_take_c
    rw [ite_self]
  rw [e]
  by_cases hq : i = g.toNatClampNeg
  · rw [if_pos hq]
    obtain ⟨a1, a2⟩ := h _ (vp_lt hg)
    have hn : ¬ zCnt σ g.toNatClampNeg < 0 := by
      rw [Int32.lt_iff_toInt_lt]
      have e0 : (0 : Int32).toInt = 0 := by decide
      omega
    obtain ⟨c, hc, ec⟩ := nI_of hn
    rw [ec, nI_toInt hc] at a2
    rw [ec, nI_1, nI_toInt (by omega)]
    omega
  · rw [if_neg hq]
    have := h i hi
    omega
theorem upd0 (o : Nat → Int64) (v : Int64) : vp_updL o 0 v 0 = v := by rw [updL_at, if_pos rfl]
abbrev BothI (l : Launch) (yL : MethodName) (cL : ByteArray) (nL : Nat) (hh : List (Nat × Nat × Nat × Nat)) (yM : MethodName) (cM : ByteArray) (nM : Nat) (Av : List Value) (o : Nat → Int64) (σ : St) (j : Nat) : Prop :=
  ∃ (k : Int32) (o' : Nat → Int64) (σ' : St) (b : Int32) (dM : Nat), dM ≤ 7 ∧ Inv σ' (j + 1) ∧ (k = 0 → o' 0 = b.toInt64) ∧
    (∀ (D : va_G) (A : Nat → Prop) (cI cB cJ : ClassId) (ra : Nat → Nat) (oa : Nat) (fr : va_W), LM l yL cL nL hh 9 (.ref (ra 0) :: (Av ++ [.ref oa])) (lPre D A cI cB cJ (LW cI cB cJ ra oa o σ fr)) D A k (LW cI cB cJ ra oa o' σ' fr)) ∧
    (∀ (D : va_G) (A : Nat → Prop) (cI cJ : ClassId) (ma : Nat → Nat) (th : Int32) (fr : va_W), IM l yM cM nM (some .int) dM (.ref (ma 0) :: Av) (mPre D A cI cJ (MW cI cJ ma th σ fr)) D A (some (.int b)) (MW cI cJ ma k σ' fr))
abbrev BothJ (l : Launch) (yL : MethodName) (cL : ByteArray) (nL : Nat) (hh : List (Nat × Nat × Nat × Nat)) (yM : MethodName) (cM : ByteArray) (nM : Nat) (Av : List Value) (o : Nat → Int64) (σ : St) (j : Nat) : Prop :=
  ∃ (k : Int32) (o' : Nat → Int64) (σ' : St) (b : Int64) (dM : Nat), dM ≤ 7 ∧ Inv σ' (j + 1) ∧ (k = 0 → o' 0 = b) ∧
    (∀ (D : va_G) (A : Nat → Prop) (cI cB cJ : ClassId) (ra : Nat → Nat) (oa : Nat) (fr : va_W), LM l yL cL nL hh 9 (.ref (ra 0) :: (Av ++ [.ref oa])) (lPre D A cI cB cJ (LW cI cB cJ ra oa o σ fr)) D A k (LW cI cB cJ ra oa o' σ' fr)) ∧
    (∀ (D : va_G) (A : Nat → Prop) (cI cJ : ClassId) (ma : Nat → Nat) (th : Int32) (fr : va_W), IM l yM cM nM (some .long) dM (.ref (ma 0) :: Av) (mPre D A cI cJ (MW cI cJ ma th σ fr)) D A (some (.long b)) (MW cI cJ ma k σ' fr))
section OPS
variable {l : Launch} {σ : St} {j : Nat}
theorem both_read (hst : l.stackTraces = false) (hj : j ≤ 4096) (hI : Inv σ j) (o : Nat → Int64) (a : Int32) (v : Int64) : BothI l yL_read cL_read 6 [(0, 11, 14, 13)] yX5_read cX5_read 7 [.int a, .long v] o σ j := by
  have hI0 := hI
  obtain ⟨⟨n, hS⟩, hc⟩ := hI
  by_cases hg : vp_in a 16
  · have hK := k4 hg
    obtain ⟨e1, e2⟩ := none_eq hK v
    have hfb := fb_eq hg σ v
    have e1' : sX5_isNone (a / 4) (sX5_read_j1 σ a v) = 0 ↔ ¬ so_isNumber (a.toNatClampNeg / 4) (so_fromBits (a.toNatClampNeg / 4) v) = 0 := by rw [g4 hg, ← hfb]; exact e1
    have hT : ¬ sX5_isBalance a = 0 → sX5_isNone (a / 4) (sX5_read_j1 σ a v) = 0 → takeOK σ a (sX5_read_j1 σ a v) := fun _ q => by
      have t2 := (take_eq hS hg (e2 (e1'.mp q))).2.1
      rwa [hfb] at t2
    by_cases hn : so_isNumber (a.toNatClampNeg / 4) (so_fromBits (a.toNatClampNeg / 4) v) = 0
    · refine ⟨1, o, σ, sX5_read σ a v, 5, by decide, hI0.mono, fun h => absurd h (by decide), fun D A cI cB cJ ra oa fr => L_read_IA l D A cI cB cJ ra oa o σ σ fr a v (x_X4_readX l D A cI cB ra σ _ a v hst hg hn), fun D A cI cJ ma th fr => ?_⟩
      have hm := m_X5_read l D A cI cJ ma th σ fr a v hT
      have hno : ¬ sX5_isNone (a / 4) (sX5_read_j1 σ a v) = 0 := fun q => (e1'.mp q) hn
      have h1 : hX5_read th σ a v = 1 := by unfold hX5_read; rw [if_neg (nIsB hg), if_neg hno]
      have h2 : tX5_read σ a v = σ := by unfold tX5_read; rw [if_neg (nIsB hg), if_neg hno]
      rw [h1, h2] at hm
      exact hm
    · obtain ⟨t1, t2, t3⟩ := take_eq hS hg (e2 hn)
      refine ⟨0, vp_updL o 0 (sX4_read σ a v).toInt64, tsX4_read σ a v, sX4_read σ a v, 5, by decide, ⟨⟨n, t3⟩, cnt_take hj hg hc⟩, fun _ => upd0 _ _, fun D A cI cB cJ ra oa fr => L_read_ok l D A cI cB cJ ra oa o σ _ fr a v _ (m_X4_read l D A cI cB ra σ _ a v hg hn), fun D A cI cJ ma th fr => ?_⟩
      have hm := m_X5_read l D A cI cJ ma th σ fr a v hT
      have h1 : hX5_read th σ a v = 0 := by unfold hX5_read hX5_take; rw [if_neg (nIsB hg), if_pos (e1'.mpr hn), ite_self]
      have h2 : tX5_read σ a v = tsX4_read σ a v := by unfold tX5_read; rw [if_neg (nIsB hg), if_pos (e1'.mpr hn), ← hfb]; exact t1.symm
      have h3 : sX5_read σ a v = sX4_read σ a v := by unfold sX5_read; rw [if_neg (nIsB hg), if_pos (e1'.mpr hn)]; rfl
      rw [h1, h2, h3] at hm
      exact hm
  · refine ⟨1, o, σ, sX5_read σ a v, 5, by decide, hI0.mono, fun h => absurd h (by decide), fun D A cI cB cJ ra oa fr => L_read_IA l D A cI cB cJ ra oa o σ σ fr a v (x_X4_readN l D A cI cB ra σ _ a v hst hg), fun D A cI cJ ma th fr => ?_⟩
    have hm := m_X5_read l D A cI cJ ma th σ fr a v (fun q => absurd (isB_no hg) q)
    have h1 : hX5_read th σ a v = 1 := by unfold hX5_read; rw [if_pos (isB_no hg)]
    have h2 : tX5_read σ a v = σ := by unfold tX5_read; rw [if_pos (isB_no hg)]
    rw [h1, h2] at hm
    exact hm
theorem ord_no {a b r : Int32} (hr : sX5_order_j2 σ a b = r) (h0 : 0 < r) (D : va_G) (A : Nat → Prop) (cI cJ : ClassId) (ma : Nat → Nat) (th : Int32) (fr : va_W) : IM l yX5_order cX5_order 4 (some .int) 1 [.ref (ma 0), .int a, .int b] (mPre D A cI cJ (MW cI cJ ma th σ fr)) D A (some (.int (sX5_order σ a b))) (MW cI cJ ma r σ fr) := by
  have hp : 0 < sX5_order_j2 σ a b := by rw [hr]; exact h0
  have hm := m_X5_order l D A cI cJ ma th σ fr a b (fun q => absurd hp q)
  have h1 : hX5_order th σ a b = r := by unfold hX5_order; rw [ite_self, hr]
  have h2 : tX5_order σ a b = σ := by unfold tX5_order; rw [if_pos hp]
  rw [h1, h2] at hm
  exact hm
theorem i32_nlt {x y : Int32} (h : ¬ x < y) : y.toInt ≤ x.toInt := by rw [Int32.lt_iff_toInt_lt] at h; omega
theorem both_order (hst : l.stackTraces = false) (hj : j ≤ 4096) (hI : Inv σ j) (o : Nat → Int64) (a b : Int32) : BothI l yL_order cL_order 5 [(0, 10, 13, 13), (0, 10, 17, 19)] yX5_order cX5_order 4 [.int a, .int b] o σ j := by
  have hI0 := hI
  obtain ⟨⟨n, hS⟩, hc⟩ := hI
  by_cases h1 : a < 0
  · exact ⟨1, o, σ, sX5_order σ a b, 1, by decide, hI0.mono, fun h => absurd h (by decide), fun D A cI cB cJ ra oa fr => L_order_IA l D A cI cB cJ ra oa o σ σ fr a b (x_X4_orderA l D A cI cB ra σ _ a b hst h1), ord_no (by unfold sX5_order_j2; rw [if_pos h1]) (by decide)⟩
  by_cases h2 : (12 : Int32) < a
  · exact ⟨1, o, σ, sX5_order σ a b, 1, by decide, hI0.mono, fun h => absurd h (by decide), fun D A cI cB cJ ra oa fr => L_order_IA l D A cI cB cJ ra oa o σ σ fr a b (x_X4_orderB l D A cI cB ra σ _ a b hst h1 h2), ord_no (by unfold sX5_order_j2; rw [if_neg h1, if_pos h2]) (by decide)⟩
  by_cases h3 : b < 0
  · exact ⟨1, o, σ, sX5_order σ a b, 1, by decide, hI0.mono, fun h => absurd h (by decide), fun D A cI cB cJ ra oa fr => L_order_IA l D A cI cB cJ ra oa o σ σ fr a b (x_X4_orderC l D A cI cB ra σ _ a b hst h1 h2 h3), ord_no (by unfold sX5_order_j2; rw [if_neg h1, if_neg h2, if_pos h3]) (by decide)⟩
  have hgo : sX5_order_j1 σ a b = sX4_greatestOperand a := rfl
  by_cases h4 : sX4_greatestOperand a < b
  · exact ⟨1, o, σ, sX5_order σ a b, 1, by decide, hI0.mono, fun h => absurd h (by decide), fun D A cI cB cJ ra oa fr => L_order_IA l D A cI cB cJ ra oa o σ σ fr a b (x_X4_orderD l D A cI cB ra σ _ a b hst h1 h2 h3 h4), ord_no (by unfold sX5_order_j2; rw [if_neg h1, if_neg h2, if_neg h3, hgo, if_pos h4]) (by decide)⟩
  have e12 : (12 : Int32) = nI 12 := rfl
  have hn12 := hS.2.1
  by_cases h5 : zOrd σ < (12 : Int32)
  · have hlt : n < 12 := by rw [hS.1, e12, nI_ltI (by omega) (by omega)] at h5; exact h5
    have hne : ¬ zOrd σ = (12 : Int32) := by rw [hS.1, e12, nI_eq (by omega) (by omega)]; omega
    have hin : vp_in (zOrd σ) 12 := by rw [hS.1]; exact nI_in hlt (by omega)
    have hcl : (zOrd σ).toNatClampNeg = n := by rw [hS.1, nI_clamp (by omega)]
    have hj2 : sX5_order_j2 σ a b = 0 := by unfold sX5_order_j2; rw [if_neg h1, if_neg h2, if_neg h3, hgo, if_neg h4, if_neg hne]
    have hok : okS (tsX4_order σ a b) (n + 1) := by
      refine ⟨?_, by omega, fun i hi => ?_, hS.2.2.2⟩
      · show zOrd σ + 1 = nI (n + 1)
        rw [hS.1, nI_1]
      · show (¬ sX4_usesBalance (upd (zCds σ) (zOrd σ).toNatClampNeg a i) = 0 → vp_in (upd (zOps σ) (zOrd σ).toNatClampNeg b i) 16) ∧ (upd (zCds σ) (zOrd σ).toNatClampNeg a i = 8 → okP (upd (zOps σ) (zOrd σ).toNatClampNeg b i - 10))
        rw [hcl]
        unfold upd
        by_cases hin' : i = n
        · simp only [if_pos hin']
          have b0 := i32_nlt h3
          have b1 := i32_nlt h4
          have e0 : (0 : Int32).toInt = 0 := by decide
          rw [e0] at b0
          refine ⟨fun hu => ?_, fun h8 => ?_⟩
          · unfold sX4_greatestOperand at b1
            rw [if_neg hu, show (15 : Int32).toInt = 15 by decide] at b1
            exact vp_in_iff.mpr ⟨b0, by omega⟩
          · subst h8
            rw [show (sX4_greatestOperand 8).toInt = 20 by decide] at b1
            obtain ⟨c, hc1, ec⟩ := nI_of h3
            rw [ec, nI_toInt hc1] at b1
            have hall : ∀ c, c < 21 → okP (nI c - 10) := by unfold okP; decide
            rw [ec]; exact hall c (by omega)
        · simp only [if_neg hin']
          exact hS.2.2.1 i (by omega)
    refine ⟨0, vp_updL o 0 (sX4_order σ a b).toInt64, tsX4_order σ a b, sX4_order σ a b, 1, by decide, ⟨⟨n + 1, hok⟩, hI0.mono.2⟩, fun _ => upd0 _ _, fun D A cI cB cJ ra oa fr => L_order_ok l D A cI cB cJ ra oa o σ _ fr a b _ (m_X4_order l D A cI cB ra σ _ a b h1 h2 h3 h4 h5 hin), fun D A cI cJ ma th fr => ?_⟩
    have hm := m_X5_order l D A cI cJ ma th σ fr a b (fun _ => hin)
    have g1 : hX5_order th σ a b = 0 := by unfold hX5_order; rw [ite_self, hj2]
    have g2 : tX5_order σ a b = tsX4_order σ a b := by unfold tX5_order; rw [hj2, if_neg (by decide)]; rfl
    have g3 : sX5_order σ a b = sX4_order σ a b := by unfold sX5_order; rw [hj2, if_neg (by decide)]; rfl
    rw [g1, g2, g3] at hm
    exact hm
  · have he : zOrd σ = (12 : Int32) := by
      rw [hS.1, e12, nI_ltI (by omega) (by omega)] at h5
      rw [hS.1, e12, nI_eq (by omega) (by omega)]
      omega
    exact ⟨2, o, σ, sX5_order σ a b, 1, by decide, hI0.mono, fun h => absurd h (by decide), fun D A cI cB cJ ra oa fr => L_order_IS l D A cI cB cJ ra oa o σ σ fr a b (x_X4_orderE l D A cI cB ra σ _ a b hst h1 h2 h3 h4 h5), ord_no (by unfold sX5_order_j2; rw [if_neg h1, if_neg h2, if_neg h3, hgo, if_neg h4, if_pos he]) (by decide)⟩
theorem okV_zero {k : Nat} : okV k 0 := fun _ => ⟨false, 0, Nat.zero_le _, by unfold cdL; rfl⟩
theorem both_forget (hst : l.stackTraces = false) (hj : j ≤ 4096) (hI : Inv σ j) (o : Nat → Int64) (a : Int32) : BothI l yL_forget cL_forget 4 [(0, 9, 12, 13)] yX5_forget cX5_forget 3 [.int a] o σ j := by
  have hI0 := hI
  obtain ⟨⟨n, hS⟩, hc⟩ := hI
  by_cases hg : vp_in a 16
  · have hj1 : sX5_forget_j1 σ a = 0 := by unfold sX5_forget_j1; rw [if_neg (nIsB hg)]
    have hu : ∀ (f : Nat → Int64) (i : Nat), okV (i / 4) (f i) → okV (i / 4) (vp_updL f a.toNatClampNeg 0 i) := fun f i h => by
      rw [updL_at]
      split
      · exact okV_zero
      · exact h
    have hok : okS (tsX4_forget σ a) n := ⟨hS.1, hS.2.1, hS.2.2.1, fun i hi => ⟨hu _ i (hS.2.2.2 i hi).1, hu _ i (hS.2.2.2 i hi).2.1, hu _ i (hS.2.2.2 i hi).2.2.1, hu _ i (hS.2.2.2 i hi).2.2.2⟩⟩
    have hcnt : ∀ i, i < 16 → 0 ≤ (zCnt (tsX4_forget σ a) i).toInt ∧ (zCnt (tsX4_forget σ a) i).toInt ≤ ((j + 1 : Nat) : Int) := fun i hi => by
      show 0 ≤ (upd (zCnt σ) a.toNatClampNeg 0 i).toInt ∧ (upd (zCnt σ) a.toNatClampNeg 0 i).toInt ≤ ((j + 1 : Nat) : Int)
      unfold upd
      split
      · rw [show (0 : Int32).toInt = 0 by decide]; omega
      · have := hc i hi; omega
    refine ⟨0, vp_updL o 0 (sX4_forget σ a).toInt64, tsX4_forget σ a, sX4_forget σ a, 1, by decide, ⟨⟨n, hok⟩, hcnt⟩, fun _ => upd0 _ _, fun D A cI cB cJ ra oa fr => L_forget_ok l D A cI cB cJ ra oa o σ _ fr a _ (m_X4_forget l D A cI cB ra σ _ a hg), fun D A cI cJ ma th fr => ?_⟩
    have hm := m_X5_forget l D A cI cJ ma th σ fr a (fun _ => hg)
    have g1 : hX5_forget th σ a = 0 := by unfold hX5_forget; rw [ite_self, hj1]
    have g2 : tX5_forget σ a = tsX4_forget σ a := by unfold tX5_forget; rw [hj1, if_neg (by decide)]; rfl
    have g3 : sX5_forget σ a = sX4_forget σ a := by unfold sX5_forget; rw [hj1, if_neg (by decide)]; rfl
    rw [g1, g2, g3] at hm
    exact hm
  · have hj1 : sX5_forget_j1 σ a = 1 := by unfold sX5_forget_j1; rw [if_pos (isB_no hg)]
    refine ⟨1, o, σ, sX5_forget σ a, 1, by decide, hI0.mono, fun h => absurd h (by decide), fun D A cI cB cJ ra oa fr => L_forget_IA l D A cI cB cJ ra oa o σ σ fr a (x_X4_forgetN l D A cI cB ra σ _ a hst hg), fun D A cI cJ ma th fr => ?_⟩
    have hm := m_X5_forget l D A cI cJ ma th σ fr a (fun q => absurd (by rw [hj1]; decide) q)
    have g1 : hX5_forget th σ a = 1 := by unfold hX5_forget; rw [ite_self, hj1]
    have g2 : tX5_forget σ a = σ := by unfold tX5_forget; rw [hj1, if_pos (by decide)]
    rw [g1, g2] at hm
    exact hm
theorem both_look (hst : l.stackTraces = false) (hj : j ≤ 4096) (hI : Inv σ j) (o : Nat → Int64) (a b : Int32) : BothJ l yL_look cL_look 5 [(0, 9, 12, 13)] yX5_look cX5_look 3 [.int a, .int b] o σ j := by
  have hI0 := hI
  have hh : ∀ th, hX5_look th σ a b = sX5_look_j1 σ a b := fun th => by unfold hX5_look; simp only [ite_self]
  have ht : tX5_look σ a b = σ := by unfold tX5_look; simp only [ite_self]
  have key : ∀ (r : Int32), sX5_look_j1 σ a b = r → (¬ 0 < r → vp_in a 16) → ∀ (D : va_G) (A : Nat → Prop) (cI cJ : ClassId) (ma : Nat → Nat) (th : Int32) (fr : va_W), IM l yX5_look cX5_look 3 (some .long) 1 [.ref (ma 0), .int a, .int b] (mPre D A cI cJ (MW cI cJ ma th σ fr)) D A (some (.long (sX5_look σ a b))) (MW cI cJ ma r σ fr) := fun r hr hv D A cI cJ ma th fr => by
    have hm := m_X5_look l D A cI cJ ma th σ fr a b (fun q => hv (by rw [hr] at q; exact q))
    rw [hh, ht, hr] at hm
    exact hm
  by_cases hg : vp_in a 16
  · have fin : ∀ (z : Int64), sX5_look_j1 σ a b = 0 → sX5_look σ a b = z → (∀ (D : va_G) (A : Nat → Prop) (cI cB : ClassId) (ra : Nat → Nat) (fr : va_W), PM l yX4_look cX4_look 4 (some .long) 1 [.ref (ra 0), .int a, .int b] (rPre D A cI cB (RW cI cB ra σ fr)) (.long z)) → BothJ l yL_look cL_look 5 [(0, 9, 12, 13)] yX5_look cX5_look 3 [.int a, .int b] o σ j := fun z hz e hP => by
      exact ⟨0, vp_updL o 0 z, σ, sX5_look σ a b, 1, by decide, hI0.mono, fun _ => by rw [upd0, e], fun D A cI cB cJ ra oa fr => L_look_ok l D A cI cB cJ ra oa o σ σ fr a b z (hP D A cI cB ra _), key 0 hz (fun _ => hg)⟩
    by_cases k0 : b = (0 : Int32)
    · have hz : sX5_look_j1 σ a b = 0 := by unfold sX5_look_j1; rw [if_neg (nIsB hg), k0, if_neg (by decide), if_neg (by decide)]
      exact fin (sX4_look0 σ a b) hz (by unfold sX5_look; rw [hz, if_neg (by decide), if_pos k0]; rfl) (fun D A cI cB ra fr => m_X4_look0 l D A cI cB ra σ fr a b hg k0)
    by_cases k1 : b = (1 : Int32)
    · have hz : sX5_look_j1 σ a b = 0 := by unfold sX5_look_j1; rw [if_neg (nIsB hg), k1, if_neg (by decide), if_neg (by decide)]
      exact fin (sX4_look1 σ a b) hz (by unfold sX5_look; rw [hz, if_neg (by decide), if_neg k0, if_pos k1]; rfl) (fun D A cI cB ra fr => m_X4_look1 l D A cI cB ra σ fr a b hg k1)
    by_cases k2 : b = (2 : Int32)
    · have hz : sX5_look_j1 σ a b = 0 := by unfold sX5_look_j1; rw [if_neg (nIsB hg), k2, if_neg (by decide), if_neg (by decide)]
      exact fin (sX4_look2 σ a b) hz (by unfold sX5_look; rw [hz, if_neg (by decide), if_neg k0, if_neg k1, if_pos k2]; rfl) (fun D A cI cB ra fr => m_X4_look2 l D A cI cB ra σ fr a b hg k2)
    by_cases k3 : b = (3 : Int32)
    · have hz : sX5_look_j1 σ a b = 0 := by unfold sX5_look_j1; rw [if_neg (nIsB hg), k3, if_neg (by decide), if_neg (by decide)]
      exact fin (sX4_look3 σ a b) hz (by unfold sX5_look; rw [hz, if_neg (by decide), if_neg k0, if_neg k1, if_neg k2, if_pos k3]; rfl) (fun D A cI cB ra fr => m_X4_look3 l D A cI cB ra σ fr a b hg k3)
    by_cases k4' : b = (4 : Int32)
    · have hz : sX5_look_j1 σ a b = 0 := by unfold sX5_look_j1; rw [if_neg (nIsB hg), k4', if_neg (by decide), if_neg (by decide)]
      exact fin (sX4_look4 σ a b) hz (by unfold sX5_look; rw [hz, if_neg (by decide), if_neg k0, if_neg k1, if_neg k2, if_neg k3, if_pos k4']; rfl) (fun D A cI cB ra fr => m_X4_look4 l D A cI cB ra σ fr a b hg k4')
    by_cases k5 : b = (5 : Int32)
    · have hz : sX5_look_j1 σ a b = 0 := by unfold sX5_look_j1; rw [if_neg (nIsB hg), k5, if_neg (by decide), if_neg (by decide)]
      exact fin (sX4_look5 σ a b) hz (by unfold sX5_look; rw [hz, if_neg (by decide), if_neg k0, if_neg k1, if_neg k2, if_neg k3, if_neg k4']; rfl) (fun D A cI cB ra fr => m_X4_look5 l D A cI cB ra σ fr a b hg k5)
    have hz : sX5_look_j1 σ a b = 1 := by
      unfold sX5_look_j1
      rw [if_neg (nIsB hg)]
      by_cases q1 : b < 0
      · rw [if_pos q1]
      · rw [if_neg q1]
        by_cases q2 : (5 : Int32) < b
        · rw [if_pos q2]
        · exfalso
          obtain ⟨c, hc1, ec⟩ := nI_of q1
          have q3 := i32_nlt q2
          rw [ec, nI_toInt hc1, show (5 : Int32).toInt = 5 by decide] at q3
          rcases (show c = 0 ∨ c = 1 ∨ c = 2 ∨ c = 3 ∨ c = 4 ∨ c = 5 by omega) with rfl | rfl | rfl | rfl | rfl | rfl
          · exact k0 ec
          · exact k1 ec
          · exact k2 ec
          · exact k3 ec
          · exact k4' ec
          · exact k5 ec
    exact ⟨1, o, σ, sX5_look σ a b, 1, by decide, hI0.mono, fun h => absurd h (by decide), fun D A cI cB cJ ra oa fr => L_look_IA l D A cI cB cJ ra oa o σ σ fr a b (x_X4_lookX l D A cI cB ra σ _ a b hst hg k0 k1 k2 k3 k4' k5), key 1 hz (fun q => absurd (by decide) q)⟩
  · have hz : sX5_look_j1 σ a b = 1 := by unfold sX5_look_j1; rw [if_pos (isB_no hg)]
    exact ⟨1, o, σ, sX5_look σ a b, 1, by decide, hI0.mono, fun h => absurd h (by decide), fun D A cI cB cJ ra oa fr => L_look_IA l D A cI cB cJ ra oa o σ σ fr a b (x_X4_lookN l D A cI cB ra σ _ a b hst hg), key 1 hz (fun q => absurd (by decide) q)⟩
theorem both_top (hst : l.stackTraces = false) (hj : j ≤ 4096) (hI : Inv σ j) (o : Nat → Int64) (a b : Int32) : BothI l yL_top cL_top 5 [(0, 10, 13, 13)] yX5_top cX5_top 9 [.int a, .int b] o σ j := by
  have hI0 := hI
  by_cases h1 : a < 0
  · exact ⟨1, o, σ, 0, 0, by decide, hI0.mono, fun h => absurd h (by decide), fun D A cI cB cJ ra oa fr => L_top_IA l D A cI cB cJ ra oa o σ σ fr a b (x_X4_topA l D A cI cB ra σ _ a b hst h1), fun D A cI cJ ma th fr => m_X5_topA l D A cI cJ ma th σ fr a b h1⟩
  by_cases h2 : a < (4 : Int32)
  · obtain ⟨c, hc1, ec⟩ := nI_of h1
    have hs : c < 4 := by rw [ec, show (4 : Int32) = nI 4 from rfl, nI_ltI hc1 (by omega)] at h2; exact h2
    subst ec
    have hc0 : ∀ g, g < 16 → ¬ zCnt σ g < 0 := fun g hg => by
      have q := (hI.2 g hg).1
      rw [Int32.lt_iff_toInt_lt, show (0 : Int32).toInt = 0 by decide]
      omega
    have e := top_eq hc0 hs b 4 (Nat.le_refl 4) (-1) 0 (Or.inl rfl)
    refine ⟨0, vp_updL o 0 (cTop σ b c 4 (-1) 0).toInt64, σ, cTop σ b c 4 (-1) 0, 2, by decide, hI0.mono, fun _ => upd0 _ _, fun D A cI cB cJ ra oa fr => L_top_ok l D A cI cB cJ ra oa o σ σ fr (nI c) b _ (m_X4_top l D A cI cB ra σ _ c b hs), fun D A cI cJ ma th fr => ?_⟩
    have hm := m_X5_top l D A cI cJ ma th σ fr c b hs
    rw [← e] at hm
    exact hm
  · have h3 : (3 : Int32) < a := by
      have q := i32_nlt h2
      rw [show (4 : Int32).toInt = 4 by decide] at q
      rw [Int32.lt_iff_toInt_lt, show (3 : Int32).toInt = 3 by decide]
      omega
    exact ⟨1, o, σ, 0, 0, by decide, hI0.mono, fun h => absurd h (by decide), fun D A cI cB cJ ra oa fr => L_top_IA l D A cI cB cJ ra oa o σ σ fr a b (x_X4_topB l D A cI cB ra σ _ a b hst h1 h2), fun D A cI cJ ma th fr => m_X5_topB l D A cI cJ ma th σ fr a b h1 h3⟩
theorem both_reach (hst : l.stackTraces = false) (hj : j ≤ 4096) (hI : Inv σ j) (o : Nat → Int64) (a b : Int32) : BothJ l yL_reach cL_reach 5 [(0, 9, 12, 13), (0, 9, 16, 19)] yX5_reach cX5_reach 14 [.int a, .int b] o σ j := by
  have hI0 := hI
  obtain ⟨⟨n, hS⟩, hc⟩ := hI
  have hh : ∀ th, hX5_reach th σ a b = sX5_reach_j1 σ a b := fun th => by unfold hX5_reach; simp only [ite_self]
  have ht : tX5_reach σ a b = σ := by unfold tX5_reach; simp only [ite_self]
  have no : ∀ (r : Int32), sX5_reach_j1 σ a b = r → 0 < r → ∀ (D : va_G) (A : Nat → Prop) (cI cJ : ClassId) (ma : Nat → Nat) (th : Int32) (fr : va_W), IM l yX5_reach cX5_reach 14 (some .long) 4 [.ref (ma 0), .int a, .int b] (mPre D A cI cJ (MW cI cJ ma th σ fr)) D A (some (.long (sX5_reach σ a b))) (MW cI cJ ma r σ fr) := fun r hr hp D A cI cJ ma th fr => by
    have q0 : 0 < sX5_reach_j1 σ a b := by rw [hr]; exact hp
    have hm := m_X5_reach l D A cI cJ ma th σ fr a b (fun q => absurd q0 q) (fun q => absurd q0 q) (fun q => absurd q0 q) (fun q => absurd q0 q) (fun q => absurd q0 q)
    rw [hh, ht, hr] at hm
    exact hm
  by_cases hg : vp_in a 16
  · by_cases hg2 : vp_in b 16
    · by_cases h1 : a / 4 = b / 4
      · by_cases h2 : zCnt σ a.toNatClampNeg = 0
        · exact ⟨2, o, σ, sX5_reach σ a b, 4, by decide, hI0.mono, fun h => absurd h (by decide), fun D A cI cB cJ ra oa fr => L_reach_IS l D A cI cB cJ ra oa o σ σ fr a b (x_X4_reachD l D A cI cB ra σ _ a b hst hg hg2 h1 h2), no 2 (by unfold sX5_reach_j1; rw [if_neg (nIsB hg), if_neg (nIsB hg2), if_pos h1, if_pos h2]) (by decide)⟩
        · by_cases h3 : zCnt σ b.toNatClampNeg = 0
          · exact ⟨2, o, σ, sX5_reach σ a b, 4, by decide, hI0.mono, fun h => absurd h (by decide), fun D A cI cB cJ ra oa fr => L_reach_IS l D A cI cB cJ ra oa o σ σ fr a b (x_X4_reachE l D A cI cB ra σ _ a b hst hg hg2 h1 h2 h3), no 2 (by unfold sX5_reach_j1; rw [if_neg (nIsB hg), if_neg (nIsB hg2), if_pos h1, if_neg h2, if_pos h3]) (by decide)⟩
          · have hz : sX5_reach_j1 σ a b = 0 := by unfold sX5_reach_j1; rw [if_neg (nIsB hg), if_neg (nIsB hg2), if_pos h1, if_neg h2, if_neg h3]
            obtain ⟨r1, r2, r3, r4⟩ := reach_eq hS hg hg2 h1 hz
            refine ⟨0, vp_updL o 0 (sX4_reach σ a b), σ, sX4_reach σ a b, 4, by decide, hI0.mono, fun _ => upd0 _ _, fun D A cI cB cJ ra oa fr => L_reach_ok l D A cI cB cJ ra oa o σ σ fr a b _ (m_X4_reach l D A cI cB ra σ _ a b hg hg2 h1 h2 h3), fun D A cI cJ ma th fr => ?_⟩
            have hm := m_X5_reach l D A cI cJ ma th σ fr a b (fun _ => hg) (fun _ => hg2) (fun _ => r2) (fun _ => r3) (fun _ => r4)
            rw [hh, ht, hz, ← r1] at hm
            exact hm
      · exact ⟨2, o, σ, sX5_reach σ a b, 4, by decide, hI0.mono, fun h => absurd h (by decide), fun D A cI cB cJ ra oa fr => L_reach_IS l D A cI cB cJ ra oa o σ σ fr a b (x_X4_reachC l D A cI cB ra σ _ a b hst hg hg2 h1), no 2 (by unfold sX5_reach_j1; rw [if_neg (nIsB hg), if_neg (nIsB hg2), if_neg h1]) (by decide)⟩
    · exact ⟨1, o, σ, sX5_reach σ a b, 4, by decide, hI0.mono, fun h => absurd h (by decide), fun D A cI cB cJ ra oa fr => L_reach_IA l D A cI cB cJ ra oa o σ σ fr a b (x_X4_reachB l D A cI cB ra σ _ a b hst hg hg2), no 1 (by unfold sX5_reach_j1; rw [if_neg (nIsB hg), if_pos (isB_no hg2)]) (by decide)⟩
  · exact ⟨1, o, σ, sX5_reach σ a b, 4, by decide, hI0.mono, fun h => absurd h (by decide), fun D A cI cB cJ ra oa fr => L_reach_IA l D A cI cB cJ ra oa o σ σ fr a b (x_X4_reachA l D A cI cB ra σ _ a b hst hg), no 1 (by unfold sX5_reach_j1; rw [if_pos (isB_no hg)]) (by decide)⟩
theorem loop_vals {σ : St} {g : Int32} {K : Nat} : ∀ (m i : Nat) (v : Int64), ((cLoop σ g K m i v).2.1 = 0 ∧ (cLoop σ g K m i v).2.2 = -1) ∨ (cLoop σ g K m i v).2.1 = 2 ∨ (cLoop σ g K m i v).2.1 = 3 := by
  intro m
  induction m with
  | zero => intro i v; exact Or.inl ⟨rfl, rfl⟩
  | succ m ih =>
    intro i v
    rw [cLoop]
    by_cases h : cRef σ g i v = 0
    · rw [if_pos h]; exact ih _ _
    · rw [if_neg h]
      rcases cRef_vals (σ := σ) (g := g) (i := i) (v := v) with q | q | q
      · exact absurd q h
      · exact Or.inr (Or.inl q)
      · exact Or.inr (Or.inr q)
theorem both_show (hst : l.stackTraces = false) (hj : j ≤ 4096) (hI : Inv σ j) (o : Nat → Int64) (a : Int32) : BothJ l yL_show cL_show 4 [(0, 8, 11, 13), (0, 8, 14, 19), (0, 8, 17, 25)] yX5_show cX5_show 2 [.int a] o σ j := by
  have hI0 := hI
  obtain ⟨⟨n, hS⟩, hc⟩ := hI
  by_cases hg : vp_in a 16
  · by_cases h0 : zCnt σ a.toNatClampNeg = 0
    · exact ⟨2, o, zSetRfs σ (-1 : Int32), 0, 7, by decide, hI0.mono.rfs (-1), fun h => absurd h (by decide), fun D A cI cB cJ ra oa fr => L_show_IS l D A cI cB cJ ra oa o σ _ fr a (x_X4_showC l D A cI cB ra σ _ a hst hg h0), fun D A cI cJ ma th fr => m_X5_showB l D A cI cJ ma th σ fr a hg h0⟩
    · have hK := k4 hg
      have hS1 : okS (zSetRfs σ (-1 : Int32)) n := okS_rfs hS
      have hN := (hS.2.2.2 _ (vp_lt hg)).1
      obtain ⟨l1, l2⟩ := loop_eq hS1 hg n 0 (zNow σ a.toNatClampNeg) (by omega) hN
      have ht0 : tapeOK σ n := ⟨hS.1, hS.2.1, fun i hi h => (hS.2.2.1 i hi).1 h⟩
      have hm : ∀ (D : va_G) (A : Nat → Prop) (cI cJ : ClassId) (ma : Nat → Nat) (th : Int32) (fr : va_W), _ := fun D A cI cJ ma th fr => m_X5_showC l D A cI cJ ma th σ fr a n (okV (a.toNatClampNeg / 4)) hg h0 hS.1 hS.2.1 (fun i hi h => (hS.2.2.1 i hi).1 h) hN (fun i v hi hv hr => by
        have d := does_eq hS1 hg hi hv hr
        exact ⟨d.2.2, by rw [← d.1]; exact d.2.1⟩)
      rw [← l1] at hm
      rcases loop_vals (σ := zSetRfs σ (-1 : Int32)) (g := a) (K := a.toNatClampNeg / 4) n 0 (zNow σ a.toNatClampNeg) with ⟨q1, q2⟩ | q1 | q1
      · rw [q1, q2, if_neg (by decide)] at hm
        exact ⟨0, vp_updL o 0 (sX4_show σ n a), tsX4_show σ n a, sX4_show σ n a, 7, by decide, hI0.mono.rfs (-1), fun _ => upd0 _ _, fun D A cI cB cJ ra oa fr => L_show_ok l D A cI cB cJ ra oa o σ _ fr a _ (m_X4_show l D A cI cB ra σ _ n a hg h0 ht0 q1), hm⟩
      · rw [q1, if_pos (by decide)] at hm
        exact ⟨2, o, zSetRfs (zSetRfs σ (-1 : Int32)) (cLoop (zSetRfs σ (-1 : Int32)) a (a.toNatClampNeg / 4) n 0 (zNow σ a.toNatClampNeg)).2.2, 0, 7, by decide, (hI0.mono.rfs (-1)).rfs _, fun h => absurd h (by decide), fun D A cI cB cJ ra oa fr => L_show_IS l D A cI cB cJ ra oa o σ _ fr a (x_X4_showIS l D A cI cB ra σ _ n a hst hg h0 ht0 q1), hm⟩
      · rw [q1, if_pos (by decide)] at hm
        exact ⟨3, o, zSetRfs (zSetRfs σ (-1 : Int32)) (cLoop (zSetRfs σ (-1 : Int32)) a (a.toNatClampNeg / 4) n 0 (zNow σ a.toNatClampNeg)).2.2, 0, 7, by decide, (hI0.mono.rfs (-1)).rfs _, fun h => absurd h (by decide), fun D A cI cB cJ ra oa fr => L_show_AR l D A cI cB cJ ra oa o σ _ fr a (x_X4_showAR l D A cI cB ra σ _ n a hst hg h0 ht0 q1), hm⟩
  · exact ⟨1, o, zSetRfs σ (-1 : Int32), 0, 7, by decide, hI0.mono.rfs (-1), fun h => absurd h (by decide), fun D A cI cB cJ ra oa fr => L_show_IA l D A cI cB cJ ra oa o σ _ fr a (x_X4_showN l D A cI cB ra σ _ a hst hg), fun D A cI cJ ma th fr => m_X5_showA l D A cI cJ ma th σ fr a (isB_no hg)⟩
theorem both_keep (hst : l.stackTraces = false) (hj : j ≤ 4096) (hI : Inv σ j) (o : Nat → Int64) (a : Int32) : BothI l yL_keep cL_keep 4 [(0, 9, 12, 13), (0, 9, 15, 19), (0, 9, 18, 25)] yX5_keep cX5_keep 4 [.int a] o σ j := by
  have hI0 := hI
  obtain ⟨⟨n, hS⟩, hc⟩ := hI
  by_cases hg : vp_in a 16
  · by_cases h0 : zCnt σ a.toNatClampNeg = 0
    · exact ⟨2, o, zSetRfs σ (-1 : Int32), 0, 7, by decide, hI0.mono.rfs (-1), fun h => absurd h (by decide), fun D A cI cB cJ ra oa fr => L_keep_IS l D A cI cB cJ ra oa o σ _ fr a (x_X4_keepC l D A cI cB ra σ _ a hst hg h0), fun D A cI cJ ma th fr => m_X5_keepB l D A cI cJ ma th σ fr a hg h0⟩
    · have hK := k4 hg
      have hS1 : okS (zSetRfs σ (-1 : Int32)) n := okS_rfs hS
      have hN := (hS.2.2.2 _ (vp_lt hg)).1
      obtain ⟨l1, l2⟩ := loop_eq hS1 hg n 0 (zNow σ a.toNatClampNeg) (by omega) hN
      have ht0 : tapeOK σ n := ⟨hS.1, hS.2.1, fun i hi h => (hS.2.2.1 i hi).1 h⟩
      have hVs := fun (i : Nat) (v : Int64) (hi : i < n) (hv : okV (a.toNatClampNeg / 4) v) (hr : sX5_refusal (zSetRfs σ (-1 : Int32)) (zCds (zSetRfs σ (-1 : Int32)) i) (zOps (zSetRfs σ (-1 : Int32)) i) (a / (4 : Int32)) v = 0) => (show doesOK (zSetRfs σ (-1 : Int32)) (zCds (zSetRfs σ (-1 : Int32)) i) (zOps (zSetRfs σ (-1 : Int32)) i) (a / (4 : Int32)) v ∧ okV (a.toNatClampNeg / 4) (sX5_does (zSetRfs σ (-1 : Int32)) (zCds (zSetRfs σ (-1 : Int32)) i) (zOps (zSetRfs σ (-1 : Int32)) i) (a / (4 : Int32)) v) from by
        have d := does_eq hS1 hg hi hv hr
        exact ⟨d.2.2, by rw [← d.1]; exact d.2.1⟩)
      have hmC := fun (D : va_G) (A : Nat → Prop) (cI cJ : ClassId) (ma : Nat → Nat) (th : Int32) (fr : va_W) => m_X5_keepC l D A cI cJ ma th σ fr a n (okV (a.toNatClampNeg / 4)) hg h0 hS.1 hS.2.1 (fun i hi h => (hS.2.2.1 i hi).1 h) hN hVs
      have hmD := fun (D : va_G) (A : Nat → Prop) (cI cJ : ClassId) (ma : Nat → Nat) (th : Int32) (fr : va_W) => m_X5_keepD l D A cI cJ ma th σ fr a n (okV (a.toNatClampNeg / 4)) hg h0 hS.1 hS.2.1 (fun i hi h => (hS.2.2.1 i hi).1 h) hN hVs
      rw [← l1] at hmC hmD
      rcases loop_vals (σ := zSetRfs σ (-1 : Int32)) (g := a) (K := a.toNatClampNeg / 4) n 0 (zNow σ a.toNatClampNeg) with ⟨q1, q2⟩ | q1 | q1
      · rw [q1, q2, if_neg (by decide)] at hmD
        obtain ⟨t1, t2, t3⟩ := take_eq hS1 hg l2
        refine ⟨0, vp_updL o 0 (sX4_keep σ n a).toInt64, tsX4_keep σ n a, sX4_keep σ n a, 7, by decide, ⟨⟨n, t3⟩, cnt_take hj hg hc⟩, fun _ => upd0 _ _, fun D A cI cB cJ ra oa fr => L_keep_ok l D A cI cB cJ ra oa o σ _ fr a _ (m_X4_keep l D A cI cB ra σ _ n a hg h0 ht0 q1), fun D A cI cJ ma th fr => ?_⟩
        have hm := hmD D A cI cJ ma th fr (by decide) t2
        have g1 : ∀ v, hX5_take 0 (zSetRfs (zSetRfs σ (-1 : Int32)) (-1 : Int32)) a v = 0 := fun v => by unfold hX5_take; rw [ite_self]
        rw [g1] at hm
        rw [show tsX4_keep σ n a = tX5_take (zSetRfs σ (-1 : Int32)) a _ from t1]
        exact hm
      · rw [q1] at hmC
        exact ⟨2, o, zSetRfs (zSetRfs σ (-1 : Int32)) (cLoop (zSetRfs σ (-1 : Int32)) a (a.toNatClampNeg / 4) n 0 (zNow σ a.toNatClampNeg)).2.2, 0, 7, by decide, (hI0.mono.rfs (-1)).rfs _, fun h => absurd h (by decide), fun D A cI cB cJ ra oa fr => L_keep_IS l D A cI cB cJ ra oa o σ _ fr a (x_X4_keepIS l D A cI cB ra σ _ n a hst hg h0 ht0 q1), fun D A cI cJ ma th fr => hmC D A cI cJ ma th fr (by decide)⟩
      · rw [q1] at hmC
        exact ⟨3, o, zSetRfs (zSetRfs σ (-1 : Int32)) (cLoop (zSetRfs σ (-1 : Int32)) a (a.toNatClampNeg / 4) n 0 (zNow σ a.toNatClampNeg)).2.2, 0, 7, by decide, (hI0.mono.rfs (-1)).rfs _, fun h => absurd h (by decide), fun D A cI cB cJ ra oa fr => L_keep_AR l D A cI cB cJ ra oa o σ _ fr a (x_X4_keepAR l D A cI cB ra σ _ n a hst hg h0 ht0 q1), fun D A cI cJ ma th fr => hmC D A cI cJ ma th fr (by decide)⟩
  · exact ⟨1, o, zSetRfs σ (-1 : Int32), 0, 7, by decide, hI0.mono.rfs (-1), fun h => absurd h (by decide), fun D A cI cB cJ ra oa fr => L_keep_IA l D A cI cB cJ ra oa o σ _ fr a (x_X4_keepN l D A cI cB ra σ _ a hst hg), fun D A cI cJ ma th fr => m_X5_keepA l D A cI cJ ma th σ fr a (isB_no hg)⟩
end OPS
