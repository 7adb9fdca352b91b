/-! The tape is done alike. -/
theorem g_nI {g : Int32} (h : vp_in g 16) : g = nI g.toNatClampNeg := by
  have h1 := vp_in_iff.mp h
  apply Int32.toInt_inj.mp
  rw [nI_int (by have := vp_lt h; omega)]
  show g.toInt = ((g.toInt.toNat : Nat) : Int)
  omega
theorem g4 {g : Int32} (h : vp_in g 16) : g / 4 = nI (g.toNatClampNeg / 4) := by
  have h1 : ∀ j, j < 16 → nI j / 4 = nI (j / 4) := by decide
  have h2 := h1 _ (vp_lt h)
  rwa [← g_nI h] at h2
theorem nI_inj4 {a b : Nat} (ha : a < 4) (hb : b < 4) : nI a = nI b ↔ a = b := by
  have h : ∀ a, a < 4 → ∀ b, b < 4 → (nI a = nI b ↔ a = b) := by decide
  exact h a ha b hb
/-- a state that both sides can be in, with n orders on the tape -/
def okS (σ : St) (n : Nat) : Prop := zOrd σ = nI n ∧ n ≤ 12 ∧ (∀ i, i < n → (¬ sX4_usesBalance (zCds σ i) = 0 → vp_in (zOps σ i) 16) ∧ (zCds σ i = 8 → okP (zOps σ i - 10))) ∧ (∀ g, g < 16 → okV (g / 4) (zNow σ g) ∧ okV (g / 4) (zLst σ g) ∧ okV (g / 4) (zGst σ g) ∧ okV (g / 4) (zSwg σ g))
theorem okS_rfs {σ : St} {n : Nat} {x : Int32} (h : okS σ n) : okS (zSetRfs σ x) n := h
theorem asks_eq (a : Int32) : sX5_asks a = sX4_usesBalance a := rfl
theorem ref_eq {σ : St} {n i : Nat} {g : Int32} {v : Int64} (hS : okS σ n) (hg : vp_in g 16) (hi : i < n) (hv : okV (g.toNatClampNeg / 4) v) : cRef σ g i v = sX5_refusal σ (zCds σ i) (zOps σ i) (g / 4) v := by
  unfold cRef sX5_refusal
  rw [asks_eq]
  by_cases h0 : sX4_usesBalance (zCds σ i) = 0
  · rw [if_pos h0, if_pos h0]
  · rw [if_neg h0, if_neg h0]
    have hk := (hS.2.2.1 i hi).1 h0
    unfold sX4_sortOf
    by_cases h1 : zOps σ i / 4 = g / 4
    · rw [if_pos h1, if_pos h1]
      by_cases h2 : zCnt σ (zOps σ i).toNatClampNeg = 0
      · rw [if_pos h2, if_pos h2]
      · rw [if_neg h2, if_neg h2]
        by_cases h3 : zCds σ i = 9
        · rw [if_pos h3, if_pos h3]
          rw [g4 hk, g4 hg, nI_inj4 (k4 hk) (k4 hg)] at h1
          have hn := (hS.2.2.2 _ (vp_lt hk)).1
          rw [h1] at hn
          have he := e_apart (k4 hg) hv hn
          rw [g4 hg, h1]
          by_cases h4 : so_canMeet (g.toNatClampNeg / 4) v (zNow σ (zOps σ i).toNatClampNeg) = 0
          · rw [if_pos h4, if_neg (fun q => (he.mp q) h4)]
          · rw [if_neg h4, if_pos (he.mpr h4)]
        · rw [if_neg h3, if_neg h3]
    · rw [if_neg h1, if_neg h1]
theorem does_eq {σ : St} {n i : Nat} {g : Int32} {v : Int64} (hS : okS σ n) (hg : vp_in g 16) (hi : i < n) (hv : okV (g.toNatClampNeg / 4) v) (hr : sX5_refusal σ (zCds σ i) (zOps σ i) (g / 4) v = 0) : sX4_orderDone σ (g.toNatClampNeg / 4) (zCds σ i) (zOps σ i) v = sX5_does σ (zCds σ i) (zOps σ i) (g / 4) v ∧ okV (g.toNatClampNeg / 4) (sX4_orderDone σ (g.toNatClampNeg / 4) (zCds σ i) (zOps σ i) v) ∧ doesOK σ (zCds σ i) (zOps σ i) (g / 4) v := by
  have hK := k4 hg
  have hw2 : sX5_isWhole (g / 4) = 0 → 2 ≤ g.toNatClampNeg / 4 := fun h => Nat.le_of_not_lt (fun q => wh_no q (by rw [← g4 hg]; exact h))
  -- an order that uses a balance: of the same sort
  have hu : ¬ sX4_usesBalance (zCds σ i) = 0 → vp_in (zOps σ i) 16 ∧ (zOps σ i).toNatClampNeg / 4 = g.toNatClampNeg / 4 ∧ okV (g.toNatClampNeg / 4) (zNow σ (zOps σ i).toNatClampNeg) ∧ okV (g.toNatClampNeg / 4) (zLst σ (zOps σ i).toNatClampNeg) ∧ okV (g.toNatClampNeg / 4) (zGst σ (zOps σ i).toNatClampNeg) ∧ (zCds σ i = 9 → ¬ so_canMeet (g.toNatClampNeg / 4) v (zNow σ (zOps σ i).toNatClampNeg) = 0) := fun h0 => by
    have hk := (hS.2.2.1 i hi).1 h0
    unfold sX5_refusal at hr
    rw [asks_eq, if_neg h0] at hr
    by_cases h1 : zOps σ i / 4 = g / 4
    · rw [if_pos h1] at hr
      have h1' := h1
      rw [g4 hk, g4 hg, nI_inj4 (k4 hk) (k4 hg)] at h1'
      obtain ⟨n1, n2, n3, -⟩ := hS.2.2.2 _ (vp_lt hk)
      rw [h1'] at n1 n2 n3
      refine ⟨hk, h1', n1, n2, n3, fun h9 => ?_⟩
      by_cases h2 : zCnt σ (zOps σ i).toNatClampNeg = 0
      · rw [if_pos h2] at hr; exact absurd hr (by decide)
      · rw [if_neg h2, if_pos h9] at hr
        by_cases h3 : sX5_areApart (g / 4) v (zNow σ (zOps σ i).toNatClampNeg) = 0
        · rw [g4 hg] at h3; exact (e_apart hK hv n1).mp h3
        · rw [if_neg h3] at hr; exact absurd hr (by decide)
    · rw [if_neg h1] at hr; exact absurd hr (by decide)
  have hpart := e_part hK hv
  have hcut := e_cut hK hv
  have hvc := v_cut hK hv
  have h8 := (hS.2.2.1 i hi).2
  generalize zCds σ i = a at *
  generalize zOps σ i = k at *
  refine ⟨?_, ?_, ?_⟩
  · unfold sX4_orderDone sX5_does
    rw [g4 hg]
    by_cases c0 : a = 0
    · rw [if_pos c0, if_pos c0, e_size hK hv]
    rw [if_neg c0, if_neg c0]
    by_cases c1 : a = 1
    · rw [if_pos c1, if_pos c1, hcut.1]
    rw [if_neg c1, if_neg c1]
    by_cases c2 : a = 2
    · rw [if_pos c2, if_pos c2, hcut.2.1]
    rw [if_neg c2, if_neg c2]
    by_cases c3 : a = 3
    · rw [if_pos c3, if_pos c3, hcut.2.2]
    rw [if_neg c3, if_neg c3]
    by_cases c4 : a = 4
    · rw [if_pos c4, if_pos c4, e_sign hK hv]
    rw [if_neg c4, if_neg c4]
    by_cases c5 : a = 5
    · rw [if_pos c5, if_pos c5, e_like hK hv (hu (by rw [c5]; decide)).2.2.1]
    rw [if_neg c5, if_neg c5]
    by_cases c6 : a = 6
    · rw [if_pos c6, if_pos c6, e_greater hK]
    rw [if_neg c6, if_neg c6]
    by_cases c7 : a = 7
    · rw [if_pos c7, if_pos c7, e_lesser hK]
    rw [if_neg c7, if_neg c7]
    by_cases c8 : a = 8
    · rw [if_pos c8, if_pos c8, (e_step hK hv (h8 c8)).1]
    rw [if_neg c8, if_neg c8]
    by_cases c9 : a = 9
    · have q := hu (by rw [c9]; decide)
      rw [if_pos c9, if_pos c9, (e_meet hK hv q.2.2.1 (q.2.2.2.2.2 c9)).1]
    rw [if_neg c9, if_neg c9]
    by_cases c10 : a = 10
    · rw [if_pos c10, if_pos c10, e_turn hK hv]
    rw [if_neg c10, if_neg c10]
    by_cases c11 : a = 11
    · rw [if_pos c11, if_pos c11, e_greater hK, e_lesser hK]
    rw [if_neg c11, if_neg c11, hpart.1]
  · unfold sX4_orderDone
    by_cases c0 : a = 0
    · rw [if_pos c0]; exact v_size hK hv
    rw [if_neg c0]
    by_cases c1 : a = 1
    · rw [if_pos c1]; exact hvc.1
    rw [if_neg c1]
    by_cases c2 : a = 2
    · rw [if_pos c2]; exact hvc.2.1
    rw [if_neg c2]
    by_cases c3 : a = 3
    · rw [if_pos c3]; exact hvc.2.2
    rw [if_neg c3]
    by_cases c4 : a = 4
    · rw [if_pos c4]; exact v_sign hK hv
    rw [if_neg c4]
    by_cases c5 : a = 5
    · rw [if_pos c5]; exact v_like hK hv
    rw [if_neg c5]
    by_cases c6 : a = 6
    · rw [if_pos c6]; exact v_greater hv (hu (by rw [c6]; decide)).2.2.1
    rw [if_neg c6]
    by_cases c7 : a = 7
    · rw [if_pos c7]; exact v_lesser hv (hu (by rw [c7]; decide)).2.2.1
    rw [if_neg c7]
    by_cases c8 : a = 8
    · rw [if_pos c8]; exact (e_step hK hv (h8 c8)).2
    rw [if_neg c8]
    by_cases c9 : a = 9
    · have q := hu (by rw [c9]; decide)
      rw [if_pos c9]; exact (e_meet hK hv q.2.2.1 (q.2.2.2.2.2 c9)).2.1
    rw [if_neg c9]
    by_cases c10 : a = 10
    · rw [if_pos c10]; exact v_turn hK hv
    rw [if_neg c10]
    by_cases c11 : a = 11
    · have q := hu (by rw [c11]; decide)
      rw [if_pos c11]; exact v_greater q.2.2.2.1 (v_lesser hv q.2.2.2.2.1)
    rw [if_neg c11]; exact hpart.2.1
  · rw [g4 hg] at hw2 ⊢
    refine ⟨okV_F hK hv, fun c => (hu (by rw [c]; decide)).1, fun c => (hu (by rw [c]; decide)).1, fun c => (hu (by rw [c]; decide)).1, fun c => (hu (by rw [c]; decide)).1, fun c => (hu (by rw [c]; decide)).1, fun c _ => h8 c, fun c q => ?_, fun c q => ?_, fun q => hpart.2.2 (hw2 q)⟩
    · exact okV_F hK (hu (by rw [c]; decide)).2.2.1 q
    · have w := hu (by rw [c]; decide)
      exact (e_meet hK hv w.2.2.1 (w.2.2.2.2.2 c)).2.2 (hw2 q)
theorem loop_eq {σ : St} {n : Nat} {g : Int32} (hS : okS σ n) (hg : vp_in g 16) : ∀ (j i : Nat) (v : Int64), i + j ≤ n → okV (g.toNatClampNeg / 4) v → cLoop σ g (g.toNatClampNeg / 4) j i v = mLoop σ (g / 4) j i v ∧ okV (g.toNatClampNeg / 4) (cLoop σ g (g.toNatClampNeg / 4) j i v).1 := by
  intro j
  induction j with
  | zero => intro i v _ hv; exact ⟨rfl, hv⟩
  | succ j ih =>
    intro i v hij hv
    rw [cLoop, mLoop, ref_eq hS hg (by omega) hv]
    by_cases h : sX5_refusal σ (zCds σ i) (zOps σ i) (g / 4) v = 0
    · rw [if_pos h, if_pos h]
      obtain ⟨d1, d2, -⟩ := does_eq hS hg (by omega) hv h
      obtain ⟨i1, i2⟩ := ih (i + 1) _ (by omega) d2
      rw [← d1]; exact ⟨i1, i2⟩
    · rw [if_neg h, if_neg h]; exact ⟨rfl, hv⟩
