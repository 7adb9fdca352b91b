theorem cRef_ok {τ : St} {g : Int32} {i : Nat} {v : Int64} (hu : ¬ sX4_usesBalance (zCds τ i) = 0) (h : cRef τ g i v = 0) : sX4_sortOf (zOps τ i) = sX4_sortOf g ∧ ¬ zCnt τ (zOps τ i).toNatClampNeg = 0 ∧ (zCds τ i = 9 → ¬ so_canMeet ((zOps τ i).toNatClampNeg / 4) v (zNow τ (zOps τ i).toNatClampNeg) = 0) := by
  unfold cRef at h
  rw [if_neg hu] at h
  by_cases h1 : sX4_sortOf (zOps τ i) = sX4_sortOf g
  · rw [if_pos h1] at h
    by_cases h2 : zCnt τ (zOps τ i).toNatClampNeg = 0
    · rw [if_pos h2] at h; exact absurd h (by decide)
    · rw [if_neg h2] at h
      refine ⟨h1, h2, fun h3 h4 => ?_⟩
      rw [if_pos h3, if_pos h4] at h
      exact absurd h (by decide)
  · rw [if_neg h1] at h; exact absurd h (by decide)
theorem cRef_2 {τ : St} {g : Int32} {i : Nat} {v : Int64} (h : cRef τ g i v = 2) : ¬ sX4_usesBalance (zCds τ i) = 0 ∧ (¬ sX4_sortOf (zOps τ i) = sX4_sortOf g ∨ (sX4_sortOf (zOps τ i) = sX4_sortOf g ∧ zCnt τ (zOps τ i).toNatClampNeg = 0)) := by
  unfold cRef at h
  by_cases hu : sX4_usesBalance (zCds τ i) = 0
  · rw [if_pos hu] at h; exact absurd h (by decide)
  · rw [if_neg hu] at h
    refine ⟨hu, ?_⟩
    by_cases h1 : sX4_sortOf (zOps τ i) = sX4_sortOf g
    · rw [if_pos h1] at h
      by_cases h2 : zCnt τ (zOps τ i).toNatClampNeg = 0
      · exact Or.inr ⟨h1, h2⟩
      · rw [if_neg h2] at h
        by_cases h3 : zCds τ i = 9
        · rw [if_pos h3] at h
          by_cases h4 : so_canMeet ((zOps τ i).toNatClampNeg / 4) v (zNow τ (zOps τ i).toNatClampNeg) = 0
          · rw [if_pos h4] at h; exact absurd h (by decide)
          · rw [if_neg h4] at h; exact absurd h (by decide)
        · rw [if_neg h3] at h; exact absurd h (by decide)
    · exact Or.inl h1
theorem cRef_3 {τ : St} {g : Int32} {i : Nat} {v : Int64} (h : cRef τ g i v = 3) : ¬ sX4_usesBalance (zCds τ i) = 0 ∧ sX4_sortOf (zOps τ i) = sX4_sortOf g ∧ ¬ zCnt τ (zOps τ i).toNatClampNeg = 0 ∧ zCds τ i = 9 ∧ so_canMeet ((zOps τ i).toNatClampNeg / 4) v (zNow τ (zOps τ i).toNatClampNeg) = 0 := by
  unfold cRef at h
  by_cases hu : sX4_usesBalance (zCds τ i) = 0
  · rw [if_pos hu] at h; exact absurd h (by decide)
  · rw [if_neg hu] at h
    by_cases h1 : sX4_sortOf (zOps τ i) = sX4_sortOf g
    · rw [if_pos h1] at h
      by_cases h2 : zCnt τ (zOps τ i).toNatClampNeg = 0
      · rw [if_pos h2] at h; exact absurd h (by decide)
      · rw [if_neg h2] at h
        by_cases h3 : zCds τ i = 9
        · rw [if_pos h3] at h
          by_cases h4 : so_canMeet ((zOps τ i).toNatClampNeg / 4) v (zNow τ (zOps τ i).toNatClampNeg) = 0
          · exact ⟨hu, h1, h2, h3, h4⟩
          · rw [if_neg h4] at h; exact absurd h (by decide)
        · rw [if_neg h3] at h; exact absurd h (by decide)
    · rw [if_neg h1] at h; exact absurd h (by decide)
theorem nX4_tapeDoneOn : yX4_tapeDoneOn.cls ≠ "java/lang/invoke/MethodHandle" ∧ yX4_tapeDoneOn.cls ≠ "java/lang/invoke/VarHandle" ∧ (parseMethodDescriptor yX4_tapeDoneOn.desc).map (fun d => d.parameters.length) = some 1 := by decide +kernel
set_option maxHeartbeats 4000000 in
set_option maxRecDepth 100000 in
theorem m_X4_tapeDoneOn (l : Launch) (D : va_G) (A : Nat → Prop) (cI cB : ClassId) (ra : Nat → Nat) (σ : St) (fr : va_W) (g : Int32) (n : Nat) (hg : vp_in g 16) (hc : ¬ zCnt σ g.toNatClampNeg = 0) (ht0 : tapeOK σ n) (hR : (cLoop (zSetRfs σ (-1 : Int32)) g (g.toNatClampNeg / 4) n 0 (zNow σ g.toNatClampNeg)).2.1 = 0) : IM l yX4_tapeDoneOn cX4_tapeDoneOn 6 (some .long) 7 [.ref (ra 0), .int g] (rPre D A cI cB (RW cI cB ra σ fr)) D A (some (.long (cLoop (zSetRfs σ (-1 : Int32)) g (g.toNatClampNeg / 4) n 0 (zNow σ g.toNatClampNeg)).1)) (RW cI cB ra (zSetRfs σ (-1 : Int32)) fr) := by
  refine Met.ofW (cc := cX4_tapeDoneOn) (maxL := 6) (ret := (some .long)) (by decide) rfl ?_
  intro p e s m args below meth c s₁ B hml hv
  obtain ⟨rfl, hP, hK, hD, hA, hN, hT⟩ := hv
  have hx := B.exec
  have hb := B.bytes
  have hr := B.returns
  have hts : ∀ w ∈ AW, w.before _ s = true := fun w h => atoms_spec (ws := Cond.code yX4_tapeDoneOn cX4_tapeDoneOn 6 (some .long) :: AW) B.pre w (List.mem_cons_of_mem _ h)
  have hown : s.vm.findClass RX4 = some m.cls := findClass_of_methodNamed B.named
  have hlocks := B.notSynchronized
  have hS : va_S A s.heap s.heap [] := va_S.rf
  have hK0 := hK.sub (tys' := []) [] rfl
  have hl := lv_entry ([.ref (ra 0), .int g]) (n := 6) (Nat.le_of_ble_eq_true rfl)
  rw [lg_entry_eq]
  generalize (lg_sl ([.ref (ra 0), .int g]) ++ List.replicate (6 - (lg_sl ([.ref (ra 0), .int g])).length) Slot.unset).toArray = ls at hl ⊢
  have hl : lv_has ls 6 [(0, .ref (ra 0)), (1, .int g)] := hl
  have kn0 : ¬ (zCnt σ g.toNatClampNeg) = 0 := hc
  refine lv_aload_n hx hb dX4_tapeDoneOn_0 rfl (lv_at hl 0 rfl) ?_
  refine lv_iconst (v := -1) hx hb dX4_tapeDoneOn_1 (by decide) ?_
  refine va_put (C := RX4) (T := TX4) (N := 5) (ci := 4) (ty := .int) hx hb hts inX4 tyX4 tyX4_ok nmX4 hown hK hP hD hS 0 rfl rfl 4 (by decide) (hts _ q131) (fun _ h => h) rfl rfl rfl rfl (Nat.le_of_ble_eq_true rfl) dX4_tapeDoneOn_2 (fun H locs hP hD hS => ?_)
  have hP : va_P D vwCl (RW cI cB ra ((zCnt σ), (zNow σ), (zLst σ), (zGst σ), (zSwg σ), (zTrd σ), (zCds σ), (zOps σ), (zOrd σ), (-1 : Int32)) fr) H := hP
  have hD : va_D A (RW cI cB ra ((zCnt σ), (zNow σ), (zLst σ), (zGst σ), (zSwg σ), (zTrd σ), (zCds σ), (zOps σ), (zOrd σ), (-1 : Int32)) fr) := hD
  refine lv_aload_n hx hb dX4_tapeDoneOn_5 rfl (lv_at hl 0 rfl) ?_
  refine lv_iload_n hx hb dX4_tapeDoneOn_6 rfl (lv_at hl 1 rfl) ?_
  refine p_V (C := RX4) (rest := []) hx hb hml hown hts (m_X4_balanceAt l D A cI cB ra ((zCnt σ), (zNow σ), (zLst σ), (zGst σ), (zSwg σ), (zTrd σ), (zCds σ), (zOps σ), (zOrd σ), (-1 : Int32)) fr g hg) q159 q161 q0 q21 q162 rfl nX4_balanceAt ⟨Nat.le_of_ble_eq_true rfl, Nat.le_of_ble_eq_true rfl⟩ hl.1 rfl rfl (Nat.le_of_ble_eq_true rfl) dX4_tapeDoneOn_7 ⟨Nat.zero_le _, Nat.zero_le _⟩ rPre_bl (va_recv hK hP (ci := 4) (q0 := 0) rfl rfl) (rPre_go hP hK hD hA hN hT hS) ?_
  refine lv_astore_n (lv' := [(2, .ref (ra (4 + g.toNatClampNeg))), (0, .ref (ra 0)), (1, .int g)]) hx hb dX4_tapeDoneOn_10 rfl hl (by decide) rfl (fun ls hl => ?_)
  refine lv_aload_n hx hb dX4_tapeDoneOn_11 rfl (lv_at hl 0 rfl) ?_
  refine va_get (v := .int (zCnt σ g.toNatClampNeg)) (C := RX0) (T := TX0) (N := 7) (ci := 1) hx hb hts inX0 hown hK hP (4 + g.toNatClampNeg) (rw_bal (vp_lt hg)) rfl 1 (by decide) (hts _ q101) (fun _ h => h) rfl dX4_tapeDoneOn_12 ?_
  refine c_if_ne (tgt := 28) hx hb dX4_tapeDoneOn_15 (by decide) (fun _ => ?_) (fun hq => absurd hq kn0)
  refine lv_aload_n hx hb dX4_tapeDoneOn_28 rfl (lv_at hl 0 rfl) ?_
  refine va_get (v := .long (zNow σ g.toNatClampNeg)) (C := RX0) (T := TX0) (N := 7) (ci := 1) hx hb hts inX0 hown hK hP (4 + g.toNatClampNeg) (rw_bal (vp_lt hg)) rfl 2 (by decide) (hts _ q103) (fun _ h => h) rfl dX4_tapeDoneOn_29 ?_
  refine lv_lstore_n (lv' := [(3, .long (zNow σ g.toNatClampNeg)), (2, .ref (ra (4 + g.toNatClampNeg))), (0, .ref (ra 0)), (1, .int g)]) hx hb dX4_tapeDoneOn_32 rfl hl (by decide) rfl (fun ls hl => ?_)
  refine lv_iconst (v := 0) hx hb dX4_tapeDoneOn_33 (by decide) ?_
  refine lv_istore (lv' := [(5, .int (0 : Int32)), (3, .long (zNow σ g.toNatClampNeg)), (2, .ref (ra (4 + g.toNatClampNeg))), (0, .ref (ra 0)), (1, .int g)]) hx hb dX4_tapeDoneOn_34 hl (by decide) rfl (fun ls hl => ?_)
  have hP : va_P D vwCl (RW cI cB ra (zSetRfs σ (-1 : Int32)) fr) H := hP
  have hD : va_D A (RW cI cB ra (zSetRfs σ (-1 : Int32)) fr) := hD
  have hO : zOrd (zSetRfs σ (-1 : Int32)) = nI n := ht0.1
  have hTk : ∀ i, i < n → ¬ sX4_usesBalance (zCds (zSetRfs σ (-1 : Int32)) i) = 0 → vp_in (zOps (zSetRfs σ (-1 : Int32)) i) 16 := ht0.2.2
  generalize hτ : (zSetRfs σ (-1 : Int32)) = τ at hP hD hR hO hTk ⊢
  have hn12 := ht0.2.1
  have e0 : (0 : Int32) = nI (n - n) := by rw [Nat.sub_self]; rfl
  rw [e0] at hl
  refine p_loop (α := Int64) (J := 36) (nL := 6) (st := []) (fun k v => [(5, .int (nI (n - k))), (3, .long v), (2, .ref (ra (4 + g.toNatClampNeg))), (1, .int g), (0, .ref (ra 0))]) (fun k v => k ≤ n ∧ cLoop τ g (g.toNatClampNeg / 4) k (n - k) v = cLoop τ g (g.toNatClampNeg / 4) n 0 (zNow σ g.toNatClampNeg)) (fun k v ls hI hl ih => ?_) n (zNow σ g.toNatClampNeg) ⟨Nat.le_refl _, by rw [Nat.sub_self]⟩ ls (lv_sub hl [0, 1, 2, 4, 3] rfl)
  obtain ⟨hk, hI⟩ := hI
  try dsimp only at hI hl
  refine lv_iload hx hb dX4_tapeDoneOn_36 (lv_at hl 0 rfl) ?_
  refine lv_aload_n hx hb dX4_tapeDoneOn_38 rfl (lv_at hl 4 rfl) ?_
  refine va_get (v := .int (zOrd τ)) (C := RX4) (T := TX4) (N := 5) (ci := 4) hx hb hts inX4 hown hK hP 0 rfl rfl 3 (by decide) (hts _ q130) (fun _ h => h) rfl dX4_tapeDoneOn_39 ?_
  refine c_icmp_ge (tgt := 96) hx hb dX4_tapeDoneOn_42 (by decide) (fun h => ?_) (fun h => ?_)
  · have hk0 : k = 0 := by
      rcases Nat.eq_zero_or_pos k with q | q
      · exact q
      · exact absurd (by rw [hO]; exact nI_lt (by omega) (by omega)) h
    subst hk0
    rw [cLoop] at hI
    refine lv_lload_n hx hb dX4_tapeDoneOn_96 rfl (lv_at hl 1 rfl) ?_
    exact W.lret hx hb hr (fun t ht hW => ⟨by rw [← hI], by rw [ht]; exact hP, hS.F ht⟩) hS.2.2 dX4_tapeDoneOn_97
  · obtain ⟨k, rfl⟩ : ∃ k2, k = k2 + 1 := by
      rcases k with _ | k2
      · exact absurd h (by rw [hO]; exact nI_nlt (Nat.le_refl _) (by omega))
      · exact ⟨k2, rfl⟩
    obtain ⟨i, hi⟩ : ∃ i, i = n - (k + 1) := ⟨_, rfl⟩
    rw [← hi] at hI hl h
    have hin : i < n := by omega
    have hi1 : i + 1 = n - k := by omega
    have eC : (nI i).toNatClampNeg = i := nI_clamp (by omega)
    have eK : (nI i) + 1 = nI (n - k) := by rw [← nI_succ, hi1]
    rw [cLoop] at hI
    by_cases hq : cRef τ g i v = 0
    · rw [if_pos hq] at hI
      refine lv_aload_n hx hb dX4_tapeDoneOn_45 rfl (lv_at hl 4 rfl) ?_
      refine va_get (v := .ref (ra 2)) (C := RX4) (T := TX4) (N := 5) (ci := 4) hx hb hts inX4 hown hK hP 0 rfl rfl 1 (by decide) (hts _ q128) (fun _ h => h) rfl dX4_tapeDoneOn_46 ?_
      refine lv_iload hx hb dX4_tapeDoneOn_49 (lv_at hl 0 rfl) ?_
      refine va_iald (f := (zCds τ)) hx hb hK hP 2 0 rfl rfl (vp_in_nI (by omega) (by omega)) dX4_tapeDoneOn_51 ?_
      refine p_top (w := .int (zCds τ i)) (by rw [nI_clamp (by omega)]) ?_
      refine p_S (rest := []) hx hb hml hown hts (m_X4_usesBalance l (zCds τ i)) q355 q356 q21 q357 nX4_usesBalance ⟨Nat.le_of_ble_eq_true rfl, Nat.le_of_ble_eq_true rfl⟩ hl.1 rfl rfl (Nat.le_of_ble_eq_true rfl) dX4_tapeDoneOn_52 ⟨Nat.zero_le _, Nat.zero_le _⟩ blind_c (fun _ _ _ => trivial) ?_
      refine p_join (J := 66) (nL := 6) (st := []) (lv := [(5, .int (nI i)), (3, .long v), (2, .ref (ra (4 + g.toNatClampNeg))), (1, .int g), (0, .ref (ra 0))]) (fun ls hl => ?_) (fun KJ => ?_)
      rotate_left
      · refine c_if_eq (tgt := 66) hx hb dX4_tapeDoneOn_55 (by decide) (fun hu => ?_) (fun hu => ?_)
        · exact KJ ls (lv_sub hl [0, 1, 2, 3, 4] rfl)
        · obtain ⟨o1, o2, o3⟩ := cRef_ok hu hq
          refine lv_aload_n hx hb dX4_tapeDoneOn_58 rfl (lv_at hl 4 rfl) ?_
          refine lv_iload hx hb dX4_tapeDoneOn_59 (lv_at hl 0 rfl) ?_
          refine lv_iload_n hx hb dX4_tapeDoneOn_61 rfl (lv_at hl 3 rfl) ?_
          refine lv_lload_n hx hb dX4_tapeDoneOn_62 rfl (lv_at hl 1 rfl) ?_
          refine p_Vv (C := RX4) (rest := []) hx hb hml hown hts (m_X4_refuseUnfit l D A cI cB ra τ fr (nI i) g v (vp_in_nI (by omega) (by omega)) (by rw [eC]; exact hTk i hin hu) (by rw [eC]; exact o1) (by rw [eC]; exact o2) (by rw [eC]; exact o3)) q406 q408 q9 q21 q409 rfl nX4_refuseUnfit ⟨Nat.le_of_ble_eq_true rfl, Nat.le_of_ble_eq_true rfl⟩ hl.1 rfl rfl (Nat.le_of_ble_eq_true rfl) dX4_tapeDoneOn_63 ⟨Nat.zero_le _, Nat.zero_le _⟩ rPre_bl (va_recv hK hP (ci := 4) (q0 := 0) rfl rfl) (rPre_go hP hK hD hA hN hT hS) ?_
          exact KJ ls (lv_sub hl [0, 1, 2, 3, 4] rfl)
      refine lv_aload_n hx hb dX4_tapeDoneOn_66 rfl (lv_at hl 4 rfl) ?_
      refine lv_aload_n hx hb dX4_tapeDoneOn_67 rfl (lv_at hl 2 rfl) ?_
      refine va_get (v := .ref (ra (20 + g.toNatClampNeg / 4))) (C := RX0) (T := TX0) (N := 7) (ci := 1) hx hb hts inX0 hown hK hP (4 + g.toNatClampNeg) (rw_bal (vp_lt hg)) rfl 0 (by decide) (hts _ q99) (fun _ h => h) rfl dX4_tapeDoneOn_68 ?_
      refine lv_aload_n hx hb dX4_tapeDoneOn_71 rfl (lv_at hl 4 rfl) ?_
      refine va_get (v := .ref (ra 2)) (C := RX4) (T := TX4) (N := 5) (ci := 4) hx hb hts inX4 hown hK hP 0 rfl rfl 1 (by decide) (hts _ q128) (fun _ h => h) rfl dX4_tapeDoneOn_72 ?_
      refine lv_iload hx hb dX4_tapeDoneOn_75 (lv_at hl 0 rfl) ?_
      refine va_iald (f := (zCds τ)) hx hb hK hP 2 0 rfl rfl (vp_in_nI (by omega) (by omega)) dX4_tapeDoneOn_77 ?_
      refine p_top (w := .int (zCds τ i)) (by rw [nI_clamp (by omega)]) ?_
      refine lv_aload_n hx hb dX4_tapeDoneOn_78 rfl (lv_at hl 4 rfl) ?_
      refine va_get (v := .ref (ra 3)) (C := RX4) (T := TX4) (N := 5) (ci := 4) hx hb hts inX4 hown hK hP 0 rfl rfl 2 (by decide) (hts _ q129) (fun _ h => h) rfl dX4_tapeDoneOn_79 ?_
      refine lv_iload hx hb dX4_tapeDoneOn_82 (lv_at hl 0 rfl) ?_
      refine va_iald (f := (zOps τ)) hx hb hK hP 3 0 rfl rfl (vp_in_nI (by omega) (by omega)) dX4_tapeDoneOn_84 ?_
      refine p_top (w := .int (zOps τ i)) (by rw [nI_clamp (by omega)]) ?_
      refine lv_lload_n hx hb dX4_tapeDoneOn_85 rfl (lv_at hl 1 rfl) ?_
      refine p_V (C := RX4) (rest := []) hx hb hml hown hts (m_X4_orderDone l D A cI cB ra τ fr (g.toNatClampNeg / 4) (zCds τ i) (zOps τ i) v (k4 hg) (fun q => hTk i hin (uses_of (Or.inl q))) (fun q => hTk i hin (uses_of (Or.inr (Or.inl q)))) (fun q => hTk i hin (uses_of (Or.inr (Or.inr (Or.inl q))))) (fun q => hTk i hin (uses_of (Or.inr (Or.inr (Or.inr (Or.inl q)))))) (fun q => hTk i hin (uses_of (Or.inr (Or.inr (Or.inr (Or.inr q))))))) q426 q428 q10 q21 q429 rfl nX4_orderDone ⟨Nat.le_of_ble_eq_true rfl, Nat.le_of_ble_eq_true rfl⟩ hl.1 rfl rfl (Nat.le_of_ble_eq_true rfl) dX4_tapeDoneOn_86 ⟨Nat.zero_le _, Nat.zero_le _⟩ rPre_bl (va_recv hK hP (ci := 4) (q0 := 0) rfl rfl) (rPre_go hP hK hD hA hN hT hS) ?_
      refine lv_lstore_n (lv' := [(3, .long (sX4_orderDone τ (g.toNatClampNeg / 4) (zCds τ i) (zOps τ i) v)), (5, .int (nI i)), (2, .ref (ra (4 + g.toNatClampNeg))), (1, .int g), (0, .ref (ra 0))]) hx hb dX4_tapeDoneOn_89 rfl hl (by decide) rfl (fun ls hl => ?_)
      refine lv_iinc (v := ((nI i) + 1)) (lv' := [(5, .int ((nI i) + 1)), (3, .long (sX4_orderDone τ (g.toNatClampNeg / 4) (zCds τ i) (zOps τ i) v)), (2, .ref (ra (4 + g.toNatClampNeg))), (1, .int g), (0, .ref (ra 0))]) hx hb dX4_tapeDoneOn_90 hl (k := 1) rfl (by first | rfl | decide) (by decide) rfl (fun ls hl => ?_)
      refine lv_goto (tgt := 36) hx hb dX4_tapeDoneOn_93 (by decide) ?_
      rw [eK] at hl
      exact ih k _ ls (by omega) ⟨by omega, by rw [← hi1]; exact hI⟩ (lv_sub hl [0, 1, 2, 3, 4] rfl)
    · rw [if_neg hq] at hI
      rw [← hI] at hR
      exact absurd hR hq
set_option maxHeartbeats 4000000 in
set_option maxRecDepth 100000 in
theorem x_X4_tapeDoneOnIS (l : Launch) (D : va_G) (A : Nat → Prop) (cI cB : ClassId) (ra : Nat → Nat) (σ : St) (fr : va_W) (g : Int32) (n : Nat) (hst : l.stackTraces = false) (hg : vp_in g 16) (hc : ¬ zCnt σ g.toNatClampNeg = 0) (ht0 : tapeOK σ n) (hR : (cLoop (zSetRfs σ (-1 : Int32)) g (g.toNatClampNeg / 4) n 0 (zNow σ g.toNatClampNeg)).2.1 = 2) : XM l yX4_tapeDoneOn cX4_tapeDoneOn 6 (some .long) 7 [.ref (ra 0), .int g] (rPre D A cI cB (RW cI cB ra σ fr)) xIS D A (RW cI cB ra (zSetRfs (zSetRfs σ (-1 : Int32)) (cLoop (zSetRfs σ (-1 : Int32)) g (g.toNatClampNeg / 4) n 0 (zNow σ g.toNatClampNeg)).2.2) fr) := by
  refine vx_ofW (cc := cX4_tapeDoneOn) (maxL := 6) (ret := (some .long)) (by decide) rfl ?_
  intro p e s m args below meth c s₁ B hml htb hv
  obtain ⟨rfl, hP, hK, hD, hA, hN, hT⟩ := hv
  have hx := B.exec
  have hb := B.bytes
  have hr := B.returns
  have hts : ∀ w ∈ AW, w.before _ s = true := fun w h => atoms_spec (ws := Cond.code yX4_tapeDoneOn cX4_tapeDoneOn 6 (some .long) :: AW) B.pre w (List.mem_cons_of_mem _ h)
  have hown : s.vm.findClass RX4 = some m.cls := findClass_of_methodNamed B.named
  have hlocks := B.notSynchronized
  have hS : va_S A s.heap s.heap [] := va_S.rf
  have hK0 := hK.sub (tys' := []) [] rfl
  have hl := lv_entry ([.ref (ra 0), .int g]) (n := 6) (Nat.le_of_ble_eq_true rfl)
  rw [lg_entry_eq]
  generalize (lg_sl ([.ref (ra 0), .int g]) ++ List.replicate (6 - (lg_sl ([.ref (ra 0), .int g])).length) Slot.unset).toArray = ls at hl ⊢
  have hl : lv_has ls 6 [(0, .ref (ra 0)), (1, .int g)] := hl
  have kn0 : ¬ (zCnt σ g.toNatClampNeg) = 0 := hc
  refine lv_aload_n hx hb dX4_tapeDoneOn_0 rfl (lv_at hl 0 rfl) ?_
  refine lv_iconst (v := -1) hx hb dX4_tapeDoneOn_1 (by decide) ?_
  refine va_put (C := RX4) (T := TX4) (N := 5) (ci := 4) (ty := .int) hx hb hts inX4 tyX4 tyX4_ok nmX4 hown hK hP hD hS 0 rfl rfl 4 (by decide) (hts _ q131) (fun _ h => h) rfl rfl rfl rfl (Nat.le_of_ble_eq_true rfl) dX4_tapeDoneOn_2 (fun H locs hP hD hS => ?_)
  have hP : va_P D vwCl (RW cI cB ra ((zCnt σ), (zNow σ), (zLst σ), (zGst σ), (zSwg σ), (zTrd σ), (zCds σ), (zOps σ), (zOrd σ), (-1 : Int32)) fr) H := hP
  have hD : va_D A (RW cI cB ra ((zCnt σ), (zNow σ), (zLst σ), (zGst σ), (zSwg σ), (zTrd σ), (zCds σ), (zOps σ), (zOrd σ), (-1 : Int32)) fr) := hD
  refine lv_aload_n hx hb dX4_tapeDoneOn_5 rfl (lv_at hl 0 rfl) ?_
  refine lv_iload_n hx hb dX4_tapeDoneOn_6 rfl (lv_at hl 1 rfl) ?_
  refine p_V (C := RX4) (rest := []) hx hb hml hown hts (m_X4_balanceAt l D A cI cB ra ((zCnt σ), (zNow σ), (zLst σ), (zGst σ), (zSwg σ), (zTrd σ), (zCds σ), (zOps σ), (zOrd σ), (-1 : Int32)) fr g hg) q159 q161 q0 q21 q162 rfl nX4_balanceAt ⟨Nat.le_of_ble_eq_true rfl, Nat.le_of_ble_eq_true rfl⟩ hl.1 rfl rfl (Nat.le_of_ble_eq_true rfl) dX4_tapeDoneOn_7 ⟨Nat.zero_le _, Nat.zero_le _⟩ rPre_bl (va_recv hK hP (ci := 4) (q0 := 0) rfl rfl) (rPre_go hP hK hD hA hN hT hS) ?_
  refine lv_astore_n (lv' := [(2, .ref (ra (4 + g.toNatClampNeg))), (0, .ref (ra 0)), (1, .int g)]) hx hb dX4_tapeDoneOn_10 rfl hl (by decide) rfl (fun ls hl => ?_)
  refine lv_aload_n hx hb dX4_tapeDoneOn_11 rfl (lv_at hl 0 rfl) ?_
  refine va_get (v := .int (zCnt σ g.toNatClampNeg)) (C := RX0) (T := TX0) (N := 7) (ci := 1) hx hb hts inX0 hown hK hP (4 + g.toNatClampNeg) (rw_bal (vp_lt hg)) rfl 1 (by decide) (hts _ q101) (fun _ h => h) rfl dX4_tapeDoneOn_12 ?_
  refine c_if_ne (tgt := 28) hx hb dX4_tapeDoneOn_15 (by decide) (fun _ => ?_) (fun hq => absurd hq kn0)
  refine lv_aload_n hx hb dX4_tapeDoneOn_28 rfl (lv_at hl 0 rfl) ?_
  refine va_get (v := .long (zNow σ g.toNatClampNeg)) (C := RX0) (T := TX0) (N := 7) (ci := 1) hx hb hts inX0 hown hK hP (4 + g.toNatClampNeg) (rw_bal (vp_lt hg)) rfl 2 (by decide) (hts _ q103) (fun _ h => h) rfl dX4_tapeDoneOn_29 ?_
  refine lv_lstore_n (lv' := [(3, .long (zNow σ g.toNatClampNeg)), (2, .ref (ra (4 + g.toNatClampNeg))), (0, .ref (ra 0)), (1, .int g)]) hx hb dX4_tapeDoneOn_32 rfl hl (by decide) rfl (fun ls hl => ?_)
  refine lv_iconst (v := 0) hx hb dX4_tapeDoneOn_33 (by decide) ?_
  refine lv_istore (lv' := [(5, .int (0 : Int32)), (3, .long (zNow σ g.toNatClampNeg)), (2, .ref (ra (4 + g.toNatClampNeg))), (0, .ref (ra 0)), (1, .int g)]) hx hb dX4_tapeDoneOn_34 hl (by decide) rfl (fun ls hl => ?_)
  have hP : va_P D vwCl (RW cI cB ra (zSetRfs σ (-1 : Int32)) fr) H := hP
  have hD : va_D A (RW cI cB ra (zSetRfs σ (-1 : Int32)) fr) := hD
  have hO : zOrd (zSetRfs σ (-1 : Int32)) = nI n := ht0.1
  have hTk : ∀ i, i < n → ¬ sX4_usesBalance (zCds (zSetRfs σ (-1 : Int32)) i) = 0 → vp_in (zOps (zSetRfs σ (-1 : Int32)) i) 16 := ht0.2.2
  generalize hτ : (zSetRfs σ (-1 : Int32)) = τ at hP hD hR hO hTk ⊢
  have hn12 := ht0.2.1
  have e0 : (0 : Int32) = nI (n - n) := by rw [Nat.sub_self]; rfl
  rw [e0] at hl
  refine p_loop (α := Int64) (J := 36) (nL := 6) (st := []) (fun k v => [(5, .int (nI (n - k))), (3, .long v), (2, .ref (ra (4 + g.toNatClampNeg))), (1, .int g), (0, .ref (ra 0))]) (fun k v => k ≤ n ∧ cLoop τ g (g.toNatClampNeg / 4) k (n - k) v = cLoop τ g (g.toNatClampNeg / 4) n 0 (zNow σ g.toNatClampNeg)) (fun k v ls hI hl ih => ?_) n (zNow σ g.toNatClampNeg) ⟨Nat.le_refl _, by rw [Nat.sub_self]⟩ ls (lv_sub hl [0, 1, 2, 4, 3] rfl)
  obtain ⟨hk, hI⟩ := hI
  try dsimp only at hI hl
  refine lv_iload hx hb dX4_tapeDoneOn_36 (lv_at hl 0 rfl) ?_
  refine lv_aload_n hx hb dX4_tapeDoneOn_38 rfl (lv_at hl 4 rfl) ?_
  refine va_get (v := .int (zOrd τ)) (C := RX4) (T := TX4) (N := 5) (ci := 4) hx hb hts inX4 hown hK hP 0 rfl rfl 3 (by decide) (hts _ q130) (fun _ h => h) rfl dX4_tapeDoneOn_39 ?_
  refine c_icmp_ge (tgt := 96) hx hb dX4_tapeDoneOn_42 (by decide) (fun h => ?_) (fun h => ?_)
  · have hk0 : k = 0 := by
      rcases Nat.eq_zero_or_pos k with q | q
      · exact q
      · exact absurd (by rw [hO]; exact nI_lt (by omega) (by omega)) h
    subst hk0
    rw [cLoop] at hI
    rw [← hI] at hR
    exact absurd hR (show ¬ (0 : Int32) = 2 by decide)
  · obtain ⟨k, rfl⟩ : ∃ k2, k = k2 + 1 := by
      rcases k with _ | k2
      · exact absurd h (by rw [hO]; exact nI_nlt (Nat.le_refl _) (by omega))
      · exact ⟨k2, rfl⟩
    obtain ⟨i, hi⟩ : ∃ i, i = n - (k + 1) := ⟨_, rfl⟩
    rw [← hi] at hI hl h
    have hin : i < n := by omega
    have hi1 : i + 1 = n - k := by omega
    have eC : (nI i).toNatClampNeg = i := nI_clamp (by omega)
    have eK : (nI i) + 1 = nI (n - k) := by rw [← nI_succ, hi1]
    rw [cLoop] at hI
    by_cases hq : cRef τ g i v = 0
    · rw [if_pos hq] at hI
      refine lv_aload_n hx hb dX4_tapeDoneOn_45 rfl (lv_at hl 4 rfl) ?_
      refine va_get (v := .ref (ra 2)) (C := RX4) (T := TX4) (N := 5) (ci := 4) hx hb hts inX4 hown hK hP 0 rfl rfl 1 (by decide) (hts _ q128) (fun _ h => h) rfl dX4_tapeDoneOn_46 ?_
      refine lv_iload hx hb dX4_tapeDoneOn_49 (lv_at hl 0 rfl) ?_
      refine va_iald (f := (zCds τ)) hx hb hK hP 2 0 rfl rfl (vp_in_nI (by omega) (by omega)) dX4_tapeDoneOn_51 ?_
      refine p_top (w := .int (zCds τ i)) (by rw [nI_clamp (by omega)]) ?_
      refine p_S (rest := []) hx hb hml hown hts (m_X4_usesBalance l (zCds τ i)) q355 q356 q21 q357 nX4_usesBalance ⟨Nat.le_of_ble_eq_true rfl, Nat.le_of_ble_eq_true rfl⟩ hl.1 rfl rfl (Nat.le_of_ble_eq_true rfl) dX4_tapeDoneOn_52 ⟨Nat.zero_le _, Nat.zero_le _⟩ blind_c (fun _ _ _ => trivial) ?_
      refine p_join (J := 66) (nL := 6) (st := []) (lv := [(5, .int (nI i)), (3, .long v), (2, .ref (ra (4 + g.toNatClampNeg))), (1, .int g), (0, .ref (ra 0))]) (fun ls hl => ?_) (fun KJ => ?_)
      rotate_left
      · refine c_if_eq (tgt := 66) hx hb dX4_tapeDoneOn_55 (by decide) (fun hu => ?_) (fun hu => ?_)
        · exact KJ ls (lv_sub hl [0, 1, 2, 3, 4] rfl)
        · obtain ⟨o1, o2, o3⟩ := cRef_ok hu hq
          refine lv_aload_n hx hb dX4_tapeDoneOn_58 rfl (lv_at hl 4 rfl) ?_
          refine lv_iload hx hb dX4_tapeDoneOn_59 (lv_at hl 0 rfl) ?_
          refine lv_iload_n hx hb dX4_tapeDoneOn_61 rfl (lv_at hl 3 rfl) ?_
          refine lv_lload_n hx hb dX4_tapeDoneOn_62 rfl (lv_at hl 1 rfl) ?_
          refine p_Vv (C := RX4) (rest := []) hx hb hml hown hts (m_X4_refuseUnfit l D A cI cB ra τ fr (nI i) g v (vp_in_nI (by omega) (by omega)) (by rw [eC]; exact hTk i hin hu) (by rw [eC]; exact o1) (by rw [eC]; exact o2) (by rw [eC]; exact o3)) q406 q408 q9 q21 q409 rfl nX4_refuseUnfit ⟨Nat.le_of_ble_eq_true rfl, Nat.le_of_ble_eq_true rfl⟩ hl.1 rfl rfl (Nat.le_of_ble_eq_true rfl) dX4_tapeDoneOn_63 ⟨Nat.zero_le _, Nat.zero_le _⟩ rPre_bl (va_recv hK hP (ci := 4) (q0 := 0) rfl rfl) (rPre_go hP hK hD hA hN hT hS) ?_
          exact KJ ls (lv_sub hl [0, 1, 2, 3, 4] rfl)
      refine lv_aload_n hx hb dX4_tapeDoneOn_66 rfl (lv_at hl 4 rfl) ?_
      refine lv_aload_n hx hb dX4_tapeDoneOn_67 rfl (lv_at hl 2 rfl) ?_
      refine va_get (v := .ref (ra (20 + g.toNatClampNeg / 4))) (C := RX0) (T := TX0) (N := 7) (ci := 1) hx hb hts inX0 hown hK hP (4 + g.toNatClampNeg) (rw_bal (vp_lt hg)) rfl 0 (by decide) (hts _ q99) (fun _ h => h) rfl dX4_tapeDoneOn_68 ?_
      refine lv_aload_n hx hb dX4_tapeDoneOn_71 rfl (lv_at hl 4 rfl) ?_
      refine va_get (v := .ref (ra 2)) (C := RX4) (T := TX4) (N := 5) (ci := 4) hx hb hts inX4 hown hK hP 0 rfl rfl 1 (by decide) (hts _ q128) (fun _ h => h) rfl dX4_tapeDoneOn_72 ?_
      refine lv_iload hx hb dX4_tapeDoneOn_75 (lv_at hl 0 rfl) ?_
      refine va_iald (f := (zCds τ)) hx hb hK hP 2 0 rfl rfl (vp_in_nI (by omega) (by omega)) dX4_tapeDoneOn_77 ?_
      refine p_top (w := .int (zCds τ i)) (by rw [nI_clamp (by omega)]) ?_
      refine lv_aload_n hx hb dX4_tapeDoneOn_78 rfl (lv_at hl 4 rfl) ?_
      refine va_get (v := .ref (ra 3)) (C := RX4) (T := TX4) (N := 5) (ci := 4) hx hb hts inX4 hown hK hP 0 rfl rfl 2 (by decide) (hts _ q129) (fun _ h => h) rfl dX4_tapeDoneOn_79 ?_
      refine lv_iload hx hb dX4_tapeDoneOn_82 (lv_at hl 0 rfl) ?_
      refine va_iald (f := (zOps τ)) hx hb hK hP 3 0 rfl rfl (vp_in_nI (by omega) (by omega)) dX4_tapeDoneOn_84 ?_
      refine p_top (w := .int (zOps τ i)) (by rw [nI_clamp (by omega)]) ?_
      refine lv_lload_n hx hb dX4_tapeDoneOn_85 rfl (lv_at hl 1 rfl) ?_
      refine p_V (C := RX4) (rest := []) hx hb hml hown hts (m_X4_orderDone l D A cI cB ra τ fr (g.toNatClampNeg / 4) (zCds τ i) (zOps τ i) v (k4 hg) (fun q => hTk i hin (uses_of (Or.inl q))) (fun q => hTk i hin (uses_of (Or.inr (Or.inl q)))) (fun q => hTk i hin (uses_of (Or.inr (Or.inr (Or.inl q))))) (fun q => hTk i hin (uses_of (Or.inr (Or.inr (Or.inr (Or.inl q)))))) (fun q => hTk i hin (uses_of (Or.inr (Or.inr (Or.inr (Or.inr q))))))) q426 q428 q10 q21 q429 rfl nX4_orderDone ⟨Nat.le_of_ble_eq_true rfl, Nat.le_of_ble_eq_true rfl⟩ hl.1 rfl rfl (Nat.le_of_ble_eq_true rfl) dX4_tapeDoneOn_86 ⟨Nat.zero_le _, Nat.zero_le _⟩ rPre_bl (va_recv hK hP (ci := 4) (q0 := 0) rfl rfl) (rPre_go hP hK hD hA hN hT hS) ?_
      refine lv_lstore_n (lv' := [(3, .long (sX4_orderDone τ (g.toNatClampNeg / 4) (zCds τ i) (zOps τ i) v)), (5, .int (nI i)), (2, .ref (ra (4 + g.toNatClampNeg))), (1, .int g), (0, .ref (ra 0))]) hx hb dX4_tapeDoneOn_89 rfl hl (by decide) rfl (fun ls hl => ?_)
      refine lv_iinc (v := ((nI i) + 1)) (lv' := [(5, .int ((nI i) + 1)), (3, .long (sX4_orderDone τ (g.toNatClampNeg / 4) (zCds τ i) (zOps τ i) v)), (2, .ref (ra (4 + g.toNatClampNeg))), (1, .int g), (0, .ref (ra 0))]) hx hb dX4_tapeDoneOn_90 hl (k := 1) rfl (by first | rfl | decide) (by decide) rfl (fun ls hl => ?_)
      refine lv_goto (tgt := 36) hx hb dX4_tapeDoneOn_93 (by decide) ?_
      rw [eK] at hl
      exact ih k _ ls (by omega) ⟨by omega, by rw [← hi1]; exact hI⟩ (lv_sub hl [0, 1, 2, 3, 4] rfl)
    · rw [if_neg hq] at hI
      rw [← hI] at hR
      have hR2 : cRef τ g i v = 2 := hR
      obtain ⟨hu, o1⟩ := cRef_2 hR2
      have hI2 : (cLoop τ g (g.toNatClampNeg / 4) n 0 (zNow σ g.toNatClampNeg)).2.2 = nI i := by rw [← hI]
      rw [hI2]
      refine lv_aload_n hx hb dX4_tapeDoneOn_45 rfl (lv_at hl 4 rfl) ?_
      refine va_get (v := .ref (ra 2)) (C := RX4) (T := TX4) (N := 5) (ci := 4) hx hb hts inX4 hown hK hP 0 rfl rfl 1 (by decide) (hts _ q128) (fun _ h => h) rfl dX4_tapeDoneOn_46 ?_
      refine lv_iload hx hb dX4_tapeDoneOn_49 (lv_at hl 0 rfl) ?_
      refine va_iald (f := (zCds τ)) hx hb hK hP 2 0 rfl rfl (vp_in_nI (by omega) (by omega)) dX4_tapeDoneOn_51 ?_
      refine p_top (w := .int (zCds τ i)) (by rw [nI_clamp (by omega)]) ?_
      refine p_S (rest := []) hx hb hml hown hts (m_X4_usesBalance l (zCds τ i)) q355 q356 q21 q357 nX4_usesBalance ⟨Nat.le_of_ble_eq_true rfl, Nat.le_of_ble_eq_true rfl⟩ hl.1 rfl rfl (Nat.le_of_ble_eq_true rfl) dX4_tapeDoneOn_52 ⟨Nat.zero_le _, Nat.zero_le _⟩ blind_c (fun _ _ _ => trivial) ?_
      refine c_if_eq (tgt := 66) hx hb dX4_tapeDoneOn_55 (by decide) (fun hz => absurd hz hu) (fun _ => ?_)
      refine lv_aload_n hx hb dX4_tapeDoneOn_58 rfl (lv_at hl 4 rfl) ?_
      refine lv_iload hx hb dX4_tapeDoneOn_59 (lv_at hl 0 rfl) ?_
      refine lv_iload_n hx hb dX4_tapeDoneOn_61 rfl (lv_at hl 3 rfl) ?_
      refine lv_lload_n hx hb dX4_tapeDoneOn_62 rfl (lv_at hl 1 rfl) ?_
      rcases o1 with o1 | ⟨o1, o2⟩
      · skip
        exact x_out (C := RX4) (rest := []) hx hb hml hown hts htb (x_X4_refuseUnfitA l D A cI cB ra τ fr (nI i) g v hst (vp_in_nI (by omega) (by omega)) (by rw [eC]; exact hTk i hin hu) (by rw [eC]; exact o1)) q406 q408 q9 q21 q409 rfl nX4_refuseUnfit ⟨Nat.le_of_ble_eq_true rfl, Nat.le_of_ble_eq_true rfl⟩ hl.1 rfl rfl (Nat.le_of_ble_eq_true rfl) dX4_tapeDoneOn_63 ⟨Nat.le_of_ble_eq_true rfl, Nat.le_of_ble_eq_true rfl⟩ rPre_bl (va_recv hK hP (ci := 4) (q0 := 0) rfl rfl) (rPre_go hP hK hD hA hN hT hS) hS hlocks
      · skip
        exact x_out (C := RX4) (rest := []) hx hb hml hown hts htb (x_X4_refuseUnfitB l D A cI cB ra τ fr (nI i) g v hst (vp_in_nI (by omega) (by omega)) (by rw [eC]; exact hTk i hin hu) (by rw [eC]; exact o1) (by rw [eC]; exact o2)) q406 q408 q9 q21 q409 rfl nX4_refuseUnfit ⟨Nat.le_of_ble_eq_true rfl, Nat.le_of_ble_eq_true rfl⟩ hl.1 rfl rfl (Nat.le_of_ble_eq_true rfl) dX4_tapeDoneOn_63 ⟨Nat.le_of_ble_eq_true rfl, Nat.le_of_ble_eq_true rfl⟩ rPre_bl (va_recv hK hP (ci := 4) (q0 := 0) rfl rfl) (rPre_go hP hK hD hA hN hT hS) hS hlocks
set_option maxHeartbeats 4000000 in
set_option maxRecDepth 100000 in
theorem x_X4_tapeDoneOnAR (l : Launch) (D : va_G) (A : Nat → Prop) (cI cB : ClassId) (ra : Nat → Nat) (σ : St) (fr : va_W) (g : Int32) (n : Nat) (hst : l.stackTraces = false) (hg : vp_in g 16) (hc : ¬ zCnt σ g.toNatClampNeg = 0) (ht0 : tapeOK σ n) (hR : (cLoop (zSetRfs σ (-1 : Int32)) g (g.toNatClampNeg / 4) n 0 (zNow σ g.toNatClampNeg)).2.1 = 3) : XM l yX4_tapeDoneOn cX4_tapeDoneOn 6 (some .long) 7 [.ref (ra 0), .int g] (rPre D A cI cB (RW cI cB ra σ fr)) xAR D A (RW cI cB ra (zSetRfs (zSetRfs σ (-1 : Int32)) (cLoop (zSetRfs σ (-1 : Int32)) g (g.toNatClampNeg / 4) n 0 (zNow σ g.toNatClampNeg)).2.2) fr) := by
  refine vx_ofW (cc := cX4_tapeDoneOn) (maxL := 6) (ret := (some .long)) (by decide) rfl ?_
  intro p e s m args below meth c s₁ B hml htb hv
  obtain ⟨rfl, hP, hK, hD, hA, hN, hT⟩ := hv
  have hx := B.exec
  have hb := B.bytes
  have hr := B.returns
  have hts : ∀ w ∈ AW, w.before _ s = true := fun w h => atoms_spec (ws := Cond.code yX4_tapeDoneOn cX4_tapeDoneOn 6 (some .long) :: AW) B.pre w (List.mem_cons_of_mem _ h)
  have hown : s.vm.findClass RX4 = some m.cls := findClass_of_methodNamed B.named
  have hlocks := B.notSynchronized
  have hS : va_S A s.heap s.heap [] := va_S.rf
  have hK0 := hK.sub (tys' := []) [] rfl
  have hl := lv_entry ([.ref (ra 0), .int g]) (n := 6) (Nat.le_of_ble_eq_true rfl)
  rw [lg_entry_eq]
  generalize (lg_sl ([.ref (ra 0), .int g]) ++ List.replicate (6 - (lg_sl ([.ref (ra 0), .int g])).length) Slot.unset).toArray = ls at hl ⊢
  have hl : lv_has ls 6 [(0, .ref (ra 0)), (1, .int g)] := hl
  have kn0 : ¬ (zCnt σ g.toNatClampNeg) = 0 := hc
  refine lv_aload_n hx hb dX4_tapeDoneOn_0 rfl (lv_at hl 0 rfl) ?_
  refine lv_iconst (v := -1) hx hb dX4_tapeDoneOn_1 (by decide) ?_
  refine va_put (C := RX4) (T := TX4) (N := 5) (ci := 4) (ty := .int) hx hb hts inX4 tyX4 tyX4_ok nmX4 hown hK hP hD hS 0 rfl rfl 4 (by decide) (hts _ q131) (fun _ h => h) rfl rfl rfl rfl (Nat.le_of_ble_eq_true rfl) dX4_tapeDoneOn_2 (fun H locs hP hD hS => ?_)
  have hP : va_P D vwCl (RW cI cB ra ((zCnt σ), (zNow σ), (zLst σ), (zGst σ), (zSwg σ), (zTrd σ), (zCds σ), (zOps σ), (zOrd σ), (-1 : Int32)) fr) H := hP
  have hD : va_D A (RW cI cB ra ((zCnt σ), (zNow σ), (zLst σ), (zGst σ), (zSwg σ), (zTrd σ), (zCds σ), (zOps σ), (zOrd σ), (-1 : Int32)) fr) := hD
  refine lv_aload_n hx hb dX4_tapeDoneOn_5 rfl (lv_at hl 0 rfl) ?_
  refine lv_iload_n hx hb dX4_tapeDoneOn_6 rfl (lv_at hl 1 rfl) ?_
  refine p_V (C := RX4) (rest := []) hx hb hml hown hts (m_X4_balanceAt l D A cI cB ra ((zCnt σ), (zNow σ), (zLst σ), (zGst σ), (zSwg σ), (zTrd σ), (zCds σ), (zOps σ), (zOrd σ), (-1 : Int32)) fr g hg) q159 q161 q0 q21 q162 rfl nX4_balanceAt ⟨Nat.le_of_ble_eq_true rfl, Nat.le_of_ble_eq_true rfl⟩ hl.1 rfl rfl (Nat.le_of_ble_eq_true rfl) dX4_tapeDoneOn_7 ⟨Nat.zero_le _, Nat.zero_le _⟩ rPre_bl (va_recv hK hP (ci := 4) (q0 := 0) rfl rfl) (rPre_go hP hK hD hA hN hT hS) ?_
  refine lv_astore_n (lv' := [(2, .ref (ra (4 + g.toNatClampNeg))), (0, .ref (ra 0)), (1, .int g)]) hx hb dX4_tapeDoneOn_10 rfl hl (by decide) rfl (fun ls hl => ?_)
  refine lv_aload_n hx hb dX4_tapeDoneOn_11 rfl (lv_at hl 0 rfl) ?_
  refine va_get (v := .int (zCnt σ g.toNatClampNeg)) (C := RX0) (T := TX0) (N := 7) (ci := 1) hx hb hts inX0 hown hK hP (4 + g.toNatClampNeg) (rw_bal (vp_lt hg)) rfl 1 (by decide) (hts _ q101) (fun _ h => h) rfl dX4_tapeDoneOn_12 ?_
  refine c_if_ne (tgt := 28) hx hb dX4_tapeDoneOn_15 (by decide) (fun _ => ?_) (fun hq => absurd hq kn0)
  refine lv_aload_n hx hb dX4_tapeDoneOn_28 rfl (lv_at hl 0 rfl) ?_
  refine va_get (v := .long (zNow σ g.toNatClampNeg)) (C := RX0) (T := TX0) (N := 7) (ci := 1) hx hb hts inX0 hown hK hP (4 + g.toNatClampNeg) (rw_bal (vp_lt hg)) rfl 2 (by decide) (hts _ q103) (fun _ h => h) rfl dX4_tapeDoneOn_29 ?_
  refine lv_lstore_n (lv' := [(3, .long (zNow σ g.toNatClampNeg)), (2, .ref (ra (4 + g.toNatClampNeg))), (0, .ref (ra 0)), (1, .int g)]) hx hb dX4_tapeDoneOn_32 rfl hl (by decide) rfl (fun ls hl => ?_)
  refine lv_iconst (v := 0) hx hb dX4_tapeDoneOn_33 (by decide) ?_
  refine lv_istore (lv' := [(5, .int (0 : Int32)), (3, .long (zNow σ g.toNatClampNeg)), (2, .ref (ra (4 + g.toNatClampNeg))), (0, .ref (ra 0)), (1, .int g)]) hx hb dX4_tapeDoneOn_34 hl (by decide) rfl (fun ls hl => ?_)
  have hP : va_P D vwCl (RW cI cB ra (zSetRfs σ (-1 : Int32)) fr) H := hP
  have hD : va_D A (RW cI cB ra (zSetRfs σ (-1 : Int32)) fr) := hD
  have hO : zOrd (zSetRfs σ (-1 : Int32)) = nI n := ht0.1
  have hTk : ∀ i, i < n → ¬ sX4_usesBalance (zCds (zSetRfs σ (-1 : Int32)) i) = 0 → vp_in (zOps (zSetRfs σ (-1 : Int32)) i) 16 := ht0.2.2
  generalize hτ : (zSetRfs σ (-1 : Int32)) = τ at hP hD hR hO hTk ⊢
  have hn12 := ht0.2.1
  have e0 : (0 : Int32) = nI (n - n) := by rw [Nat.sub_self]; rfl
  rw [e0] at hl
  refine p_loop (α := Int64) (J := 36) (nL := 6) (st := []) (fun k v => [(5, .int (nI (n - k))), (3, .long v), (2, .ref (ra (4 + g.toNatClampNeg))), (1, .int g), (0, .ref (ra 0))]) (fun k v => k ≤ n ∧ cLoop τ g (g.toNatClampNeg / 4) k (n - k) v = cLoop τ g (g.toNatClampNeg / 4) n 0 (zNow σ g.toNatClampNeg)) (fun k v ls hI hl ih => ?_) n (zNow σ g.toNatClampNeg) ⟨Nat.le_refl _, by rw [Nat.sub_self]⟩ ls (lv_sub hl [0, 1, 2, 4, 3] rfl)
  obtain ⟨hk, hI⟩ := hI
  try dsimp only at hI hl
  refine lv_iload hx hb dX4_tapeDoneOn_36 (lv_at hl 0 rfl) ?_
  refine lv_aload_n hx hb dX4_tapeDoneOn_38 rfl (lv_at hl 4 rfl) ?_
  refine va_get (v := .int (zOrd τ)) (C := RX4) (T := TX4) (N := 5) (ci := 4) hx hb hts inX4 hown hK hP 0 rfl rfl 3 (by decide) (hts _ q130) (fun _ h => h) rfl dX4_tapeDoneOn_39 ?_
  refine c_icmp_ge (tgt := 96) hx hb dX4_tapeDoneOn_42 (by decide) (fun h => ?_) (fun h => ?_)
  · have hk0 : k = 0 := by
      rcases Nat.eq_zero_or_pos k with q | q
      · exact q
      · exact absurd (by rw [hO]; exact nI_lt (by omega) (by omega)) h
    subst hk0
    rw [cLoop] at hI
    rw [← hI] at hR
    exact absurd hR (show ¬ (0 : Int32) = 3 by decide)
  · obtain ⟨k, rfl⟩ : ∃ k2, k = k2 + 1 := by
      rcases k with _ | k2
      · exact absurd h (by rw [hO]; exact nI_nlt (Nat.le_refl _) (by omega))
      · exact ⟨k2, rfl⟩
    obtain ⟨i, hi⟩ : ∃ i, i = n - (k + 1) := ⟨_, rfl⟩
    rw [← hi] at hI hl h
    have hin : i < n := by omega
    have hi1 : i + 1 = n - k := by omega
    have eC : (nI i).toNatClampNeg = i := nI_clamp (by omega)
    have eK : (nI i) + 1 = nI (n - k) := by rw [← nI_succ, hi1]
    rw [cLoop] at hI
    by_cases hq : cRef τ g i v = 0
    · rw [if_pos hq] at hI
      refine lv_aload_n hx hb dX4_tapeDoneOn_45 rfl (lv_at hl 4 rfl) ?_
      refine va_get (v := .ref (ra 2)) (C := RX4) (T := TX4) (N := 5) (ci := 4) hx hb hts inX4 hown hK hP 0 rfl rfl 1 (by decide) (hts _ q128) (fun _ h => h) rfl dX4_tapeDoneOn_46 ?_
      refine lv_iload hx hb dX4_tapeDoneOn_49 (lv_at hl 0 rfl) ?_
      refine va_iald (f := (zCds τ)) hx hb hK hP 2 0 rfl rfl (vp_in_nI (by omega) (by omega)) dX4_tapeDoneOn_51 ?_
      refine p_top (w := .int (zCds τ i)) (by rw [nI_clamp (by omega)]) ?_
      refine p_S (rest := []) hx hb hml hown hts (m_X4_usesBalance l (zCds τ i)) q355 q356 q21 q357 nX4_usesBalance ⟨Nat.le_of_ble_eq_true rfl, Nat.le_of_ble_eq_true rfl⟩ hl.1 rfl rfl (Nat.le_of_ble_eq_true rfl) dX4_tapeDoneOn_52 ⟨Nat.zero_le _, Nat.zero_le _⟩ blind_c (fun _ _ _ => trivial) ?_
      refine p_join (J := 66) (nL := 6) (st := []) (lv := [(5, .int (nI i)), (3, .long v), (2, .ref (ra (4 + g.toNatClampNeg))), (1, .int g), (0, .ref (ra 0))]) (fun ls hl => ?_) (fun KJ => ?_)
      rotate_left
      · refine c_if_eq (tgt := 66) hx hb dX4_tapeDoneOn_55 (by decide) (fun hu => ?_) (fun hu => ?_)
        · exact KJ ls (lv_sub hl [0, 1, 2, 3, 4] rfl)
        · obtain ⟨o1, o2, o3⟩ := cRef_ok hu hq
          refine lv_aload_n hx hb dX4_tapeDoneOn_58 rfl (lv_at hl 4 rfl) ?_
          refine lv_iload hx hb dX4_tapeDoneOn_59 (lv_at hl 0 rfl) ?_
          refine lv_iload_n hx hb dX4_tapeDoneOn_61 rfl (lv_at hl 3 rfl) ?_
          refine lv_lload_n hx hb dX4_tapeDoneOn_62 rfl (lv_at hl 1 rfl) ?_
          refine p_Vv (C := RX4) (rest := []) hx hb hml hown hts (m_X4_refuseUnfit l D A cI cB ra τ fr (nI i) g v (vp_in_nI (by omega) (by omega)) (by rw [eC]; exact hTk i hin hu) (by rw [eC]; exact o1) (by rw [eC]; exact o2) (by rw [eC]; exact o3)) q406 q408 q9 q21 q409 rfl nX4_refuseUnfit ⟨Nat.le_of_ble_eq_true rfl, Nat.le_of_ble_eq_true rfl⟩ hl.1 rfl rfl (Nat.le_of_ble_eq_true rfl) dX4_tapeDoneOn_63 ⟨Nat.zero_le _, Nat.zero_le _⟩ rPre_bl (va_recv hK hP (ci := 4) (q0 := 0) rfl rfl) (rPre_go hP hK hD hA hN hT hS) ?_
          exact KJ ls (lv_sub hl [0, 1, 2, 3, 4] rfl)
      refine lv_aload_n hx hb dX4_tapeDoneOn_66 rfl (lv_at hl 4 rfl) ?_
      refine lv_aload_n hx hb dX4_tapeDoneOn_67 rfl (lv_at hl 2 rfl) ?_
      refine va_get (v := .ref (ra (20 + g.toNatClampNeg / 4))) (C := RX0) (T := TX0) (N := 7) (ci := 1) hx hb hts inX0 hown hK hP (4 + g.toNatClampNeg) (rw_bal (vp_lt hg)) rfl 0 (by decide) (hts _ q99) (fun _ h => h) rfl dX4_tapeDoneOn_68 ?_
      refine lv_aload_n hx hb dX4_tapeDoneOn_71 rfl (lv_at hl 4 rfl) ?_
      refine va_get (v := .ref (ra 2)) (C := RX4) (T := TX4) (N := 5) (ci := 4) hx hb hts inX4 hown hK hP 0 rfl rfl 1 (by decide) (hts _ q128) (fun _ h => h) rfl dX4_tapeDoneOn_72 ?_
      refine lv_iload hx hb dX4_tapeDoneOn_75 (lv_at hl 0 rfl) ?_
      refine va_iald (f := (zCds τ)) hx hb hK hP 2 0 rfl rfl (vp_in_nI (by omega) (by omega)) dX4_tapeDoneOn_77 ?_
      refine p_top (w := .int (zCds τ i)) (by rw [nI_clamp (by omega)]) ?_
      refine lv_aload_n hx hb dX4_tapeDoneOn_78 rfl (lv_at hl 4 rfl) ?_
      refine va_get (v := .ref (ra 3)) (C := RX4) (T := TX4) (N := 5) (ci := 4) hx hb hts inX4 hown hK hP 0 rfl rfl 2 (by decide) (hts _ q129) (fun _ h => h) rfl dX4_tapeDoneOn_79 ?_
      refine lv_iload hx hb dX4_tapeDoneOn_82 (lv_at hl 0 rfl) ?_
      refine va_iald (f := (zOps τ)) hx hb hK hP 3 0 rfl rfl (vp_in_nI (by omega) (by omega)) dX4_tapeDoneOn_84 ?_
      refine p_top (w := .int (zOps τ i)) (by rw [nI_clamp (by omega)]) ?_
      refine lv_lload_n hx hb dX4_tapeDoneOn_85 rfl (lv_at hl 1 rfl) ?_
      refine p_V (C := RX4) (rest := []) hx hb hml hown hts (m_X4_orderDone l D A cI cB ra τ fr (g.toNatClampNeg / 4) (zCds τ i) (zOps τ i) v (k4 hg) (fun q => hTk i hin (uses_of (Or.inl q))) (fun q => hTk i hin (uses_of (Or.inr (Or.inl q)))) (fun q => hTk i hin (uses_of (Or.inr (Or.inr (Or.inl q))))) (fun q => hTk i hin (uses_of (Or.inr (Or.inr (Or.inr (Or.inl q)))))) (fun q => hTk i hin (uses_of (Or.inr (Or.inr (Or.inr (Or.inr q))))))) q426 q428 q10 q21 q429 rfl nX4_orderDone ⟨Nat.le_of_ble_eq_true rfl, Nat.le_of_ble_eq_true rfl⟩ hl.1 rfl rfl (Nat.le_of_ble_eq_true rfl) dX4_tapeDoneOn_86 ⟨Nat.zero_le _, Nat.zero_le _⟩ rPre_bl (va_recv hK hP (ci := 4) (q0 := 0) rfl rfl) (rPre_go hP hK hD hA hN hT hS) ?_
      refine lv_lstore_n (lv' := [(3, .long (sX4_orderDone τ (g.toNatClampNeg / 4) (zCds τ i) (zOps τ i) v)), (5, .int (nI i)), (2, .ref (ra (4 + g.toNatClampNeg))), (1, .int g), (0, .ref (ra 0))]) hx hb dX4_tapeDoneOn_89 rfl hl (by decide) rfl (fun ls hl => ?_)
      refine lv_iinc (v := ((nI i) + 1)) (lv' := [(5, .int ((nI i) + 1)), (3, .long (sX4_orderDone τ (g.toNatClampNeg / 4) (zCds τ i) (zOps τ i) v)), (2, .ref (ra (4 + g.toNatClampNeg))), (1, .int g), (0, .ref (ra 0))]) hx hb dX4_tapeDoneOn_90 hl (k := 1) rfl (by first | rfl | decide) (by decide) rfl (fun ls hl => ?_)
      refine lv_goto (tgt := 36) hx hb dX4_tapeDoneOn_93 (by decide) ?_
      rw [eK] at hl
      exact ih k _ ls (by omega) ⟨by omega, by rw [← hi1]; exact hI⟩ (lv_sub hl [0, 1, 2, 3, 4] rfl)
    · rw [if_neg hq] at hI
      rw [← hI] at hR
      have hR2 : cRef τ g i v = 3 := hR
      obtain ⟨hu, o1, o2, o3, o4⟩ := cRef_3 hR2
      have hI2 : (cLoop τ g (g.toNatClampNeg / 4) n 0 (zNow σ g.toNatClampNeg)).2.2 = nI i := by rw [← hI]
      rw [hI2]
      refine lv_aload_n hx hb dX4_tapeDoneOn_45 rfl (lv_at hl 4 rfl) ?_
      refine va_get (v := .ref (ra 2)) (C := RX4) (T := TX4) (N := 5) (ci := 4) hx hb hts inX4 hown hK hP 0 rfl rfl 1 (by decide) (hts _ q128) (fun _ h => h) rfl dX4_tapeDoneOn_46 ?_
      refine lv_iload hx hb dX4_tapeDoneOn_49 (lv_at hl 0 rfl) ?_
      refine va_iald (f := (zCds τ)) hx hb hK hP 2 0 rfl rfl (vp_in_nI (by omega) (by omega)) dX4_tapeDoneOn_51 ?_
      refine p_top (w := .int (zCds τ i)) (by rw [nI_clamp (by omega)]) ?_
      refine p_S (rest := []) hx hb hml hown hts (m_X4_usesBalance l (zCds τ i)) q355 q356 q21 q357 nX4_usesBalance ⟨Nat.le_of_ble_eq_true rfl, Nat.le_of_ble_eq_true rfl⟩ hl.1 rfl rfl (Nat.le_of_ble_eq_true rfl) dX4_tapeDoneOn_52 ⟨Nat.zero_le _, Nat.zero_le _⟩ blind_c (fun _ _ _ => trivial) ?_
      refine c_if_eq (tgt := 66) hx hb dX4_tapeDoneOn_55 (by decide) (fun hz => absurd hz hu) (fun _ => ?_)
      refine lv_aload_n hx hb dX4_tapeDoneOn_58 rfl (lv_at hl 4 rfl) ?_
      refine lv_iload hx hb dX4_tapeDoneOn_59 (lv_at hl 0 rfl) ?_
      refine lv_iload_n hx hb dX4_tapeDoneOn_61 rfl (lv_at hl 3 rfl) ?_
      refine lv_lload_n hx hb dX4_tapeDoneOn_62 rfl (lv_at hl 1 rfl) ?_
      exact x_out (C := RX4) (rest := []) hx hb hml hown hts htb (x_X4_refuseUnfitC l D A cI cB ra τ fr (nI i) g v hst (vp_in_nI (by omega) (by omega)) (by rw [eC]; exact hTk i hin hu) (by rw [eC]; exact o1) (by rw [eC]; exact o2) (by rw [eC]; exact o3) (by rw [eC]; exact o4)) q406 q408 q9 q21 q409 rfl nX4_refuseUnfit ⟨Nat.le_of_ble_eq_true rfl, Nat.le_of_ble_eq_true rfl⟩ hl.1 rfl rfl (Nat.le_of_ble_eq_true rfl) dX4_tapeDoneOn_63 ⟨Nat.le_of_ble_eq_true rfl, Nat.le_of_ble_eq_true rfl⟩ rPre_bl (va_recv hK hP (ci := 4) (q0 := 0) rfl rfl) (rPre_go hP hK hD hA hN hT hS) hS hlocks
set_option maxHeartbeats 4000000 in
set_option maxRecDepth 100000 in
theorem x_X4_tapeDoneOnN (l : Launch) (D : va_G) (A : Nat → Prop) (cI cB : ClassId) (ra : Nat → Nat) (σ : St) (fr : va_W) (g : Int32) (hst : l.stackTraces = false) (hg : ¬ vp_in g 16) : XM l yX4_tapeDoneOn cX4_tapeDoneOn 6 (some .long) 7 [.ref (ra 0), .int g] (rPre D A cI cB (RW cI cB ra σ fr)) xIA D A (RW cI cB ra ((zCnt σ), (zNow σ), (zLst σ), (zGst σ), (zSwg σ), (zTrd σ), (zCds σ), (zOps σ), (zOrd σ), (-1 : Int32)) fr) := by
  refine vx_ofW (cc := cX4_tapeDoneOn) (maxL := 6) (ret := (some .long)) (by decide) rfl ?_
  intro p e s m args below meth c s₁ B hml htb hv
  obtain ⟨rfl, hP, hK, hD, hA, hN, hT⟩ := hv
  have hx := B.exec
  have hb := B.bytes
  have hr := B.returns
  have hts : ∀ w ∈ AW, w.before _ s = true := fun w h => atoms_spec (ws := Cond.code yX4_tapeDoneOn cX4_tapeDoneOn 6 (some .long) :: AW) B.pre w (List.mem_cons_of_mem _ h)
  have hown : s.vm.findClass RX4 = some m.cls := findClass_of_methodNamed B.named
  have hlocks := B.notSynchronized
  have hS : va_S A s.heap s.heap [] := va_S.rf
  have hK0 := hK.sub (tys' := []) [] rfl
  have hl := lv_entry ([.ref (ra 0), .int g]) (n := 6) (Nat.le_of_ble_eq_true rfl)
  rw [lg_entry_eq]
  generalize (lg_sl ([.ref (ra 0), .int g]) ++ List.replicate (6 - (lg_sl ([.ref (ra 0), .int g])).length) Slot.unset).toArray = ls at hl ⊢
  have hl : lv_has ls 6 [(0, .ref (ra 0)), (1, .int g)] := hl
  refine lv_aload_n hx hb dX4_tapeDoneOn_0 rfl (lv_at hl 0 rfl) ?_
  refine lv_iconst (v := -1) hx hb dX4_tapeDoneOn_1 (by decide) ?_
  refine va_put (C := RX4) (T := TX4) (N := 5) (ci := 4) (ty := .int) hx hb hts inX4 tyX4 tyX4_ok nmX4 hown hK hP hD hS 0 rfl rfl 4 (by decide) (hts _ q131) (fun _ h => h) rfl rfl rfl rfl (Nat.le_of_ble_eq_true rfl) dX4_tapeDoneOn_2 (fun H locs hP hD hS => ?_)
  have hP : va_P D vwCl (RW cI cB ra ((zCnt σ), (zNow σ), (zLst σ), (zGst σ), (zSwg σ), (zTrd σ), (zCds σ), (zOps σ), (zOrd σ), (-1 : Int32)) fr) H := hP
  have hD : va_D A (RW cI cB ra ((zCnt σ), (zNow σ), (zLst σ), (zGst σ), (zSwg σ), (zTrd σ), (zCds σ), (zOps σ), (zOrd σ), (-1 : Int32)) fr) := hD
  refine lv_aload_n hx hb dX4_tapeDoneOn_5 rfl (lv_at hl 0 rfl) ?_
  refine lv_iload_n hx hb dX4_tapeDoneOn_6 rfl (lv_at hl 1 rfl) ?_
  exact x_out (C := RX4) (rest := []) hx hb hml hown hts htb (x_X4_balanceAtN l D A cI cB ra ((zCnt σ), (zNow σ), (zLst σ), (zGst σ), (zSwg σ), (zTrd σ), (zCds σ), (zOps σ), (zOrd σ), (-1 : Int32)) fr g hst hg) q159 q161 q0 q21 q162 rfl nX4_balanceAt ⟨Nat.le_of_ble_eq_true rfl, Nat.le_of_ble_eq_true rfl⟩ hl.1 rfl rfl (Nat.le_of_ble_eq_true rfl) dX4_tapeDoneOn_7 ⟨Nat.le_of_ble_eq_true rfl, Nat.le_of_ble_eq_true rfl⟩ rPre_bl (va_recv hK hP (ci := 4) (q0 := 0) rfl rfl) (rPre_go hP hK hD hA hN hT hS) hS hlocks
set_option maxHeartbeats 4000000 in
set_option maxRecDepth 100000 in
theorem x_X4_tapeDoneOnC (l : Launch) (D : va_G) (A : Nat → Prop) (cI cB : ClassId) (ra : Nat → Nat) (σ : St) (fr : va_W) (g : Int32) (hst : l.stackTraces = false) (hg : vp_in g 16) (hc : zCnt σ g.toNatClampNeg = 0) : XM l yX4_tapeDoneOn cX4_tapeDoneOn 6 (some .long) 7 [.ref (ra 0), .int g] (rPre D A cI cB (RW cI cB ra σ fr)) xIS D A (RW cI cB ra ((zCnt σ), (zNow σ), (zLst σ), (zGst σ), (zSwg σ), (zTrd σ), (zCds σ), (zOps σ), (zOrd σ), (-1 : Int32)) fr) := by
  refine vx_ofW (cc := cX4_tapeDoneOn) (maxL := 6) (ret := (some .long)) (by decide) rfl ?_
  intro p e s m args below meth c s₁ B hml htb hv
  obtain ⟨rfl, hP, hK, hD, hA, hN, hT⟩ := hv
  have hx := B.exec
  have hb := B.bytes
  have hr := B.returns
  have hts : ∀ w ∈ AW, w.before _ s = true := fun w h => atoms_spec (ws := Cond.code yX4_tapeDoneOn cX4_tapeDoneOn 6 (some .long) :: AW) B.pre w (List.mem_cons_of_mem _ h)
  have hown : s.vm.findClass RX4 = some m.cls := findClass_of_methodNamed B.named
  have hlocks := B.notSynchronized
  have hS : va_S A s.heap s.heap [] := va_S.rf
  have hK0 := hK.sub (tys' := []) [] rfl
  have hl := lv_entry ([.ref (ra 0), .int g]) (n := 6) (Nat.le_of_ble_eq_true rfl)
  rw [lg_entry_eq]
  generalize (lg_sl ([.ref (ra 0), .int g]) ++ List.replicate (6 - (lg_sl ([.ref (ra 0), .int g])).length) Slot.unset).toArray = ls at hl ⊢
  have hl : lv_has ls 6 [(0, .ref (ra 0)), (1, .int g)] := hl
  have kn0 : (zCnt σ g.toNatClampNeg) = 0 := hc
  refine lv_aload_n hx hb dX4_tapeDoneOn_0 rfl (lv_at hl 0 rfl) ?_
  refine lv_iconst (v := -1) hx hb dX4_tapeDoneOn_1 (by decide) ?_
  refine va_put (C := RX4) (T := TX4) (N := 5) (ci := 4) (ty := .int) hx hb hts inX4 tyX4 tyX4_ok nmX4 hown hK hP hD hS 0 rfl rfl 4 (by decide) (hts _ q131) (fun _ h => h) rfl rfl rfl rfl (Nat.le_of_ble_eq_true rfl) dX4_tapeDoneOn_2 (fun H locs hP hD hS => ?_)
  have hP : va_P D vwCl (RW cI cB ra ((zCnt σ), (zNow σ), (zLst σ), (zGst σ), (zSwg σ), (zTrd σ), (zCds σ), (zOps σ), (zOrd σ), (-1 : Int32)) fr) H := hP
  have hD : va_D A (RW cI cB ra ((zCnt σ), (zNow σ), (zLst σ), (zGst σ), (zSwg σ), (zTrd σ), (zCds σ), (zOps σ), (zOrd σ), (-1 : Int32)) fr) := hD
  refine lv_aload_n hx hb dX4_tapeDoneOn_5 rfl (lv_at hl 0 rfl) ?_
  refine lv_iload_n hx hb dX4_tapeDoneOn_6 rfl (lv_at hl 1 rfl) ?_
  refine p_V (C := RX4) (rest := []) hx hb hml hown hts (m_X4_balanceAt l D A cI cB ra ((zCnt σ), (zNow σ), (zLst σ), (zGst σ), (zSwg σ), (zTrd σ), (zCds σ), (zOps σ), (zOrd σ), (-1 : Int32)) fr g hg) q159 q161 q0 q21 q162 rfl nX4_balanceAt ⟨Nat.le_of_ble_eq_true rfl, Nat.le_of_ble_eq_true rfl⟩ hl.1 rfl rfl (Nat.le_of_ble_eq_true rfl) dX4_tapeDoneOn_7 ⟨Nat.zero_le _, Nat.zero_le _⟩ rPre_bl (va_recv hK hP (ci := 4) (q0 := 0) rfl rfl) (rPre_go hP hK hD hA hN hT hS) ?_
  refine lv_astore_n (lv' := [(2, .ref (ra (4 + g.toNatClampNeg))), (0, .ref (ra 0)), (1, .int g)]) hx hb dX4_tapeDoneOn_10 rfl hl (by decide) rfl (fun ls hl => ?_)
  refine lv_aload_n hx hb dX4_tapeDoneOn_11 rfl (lv_at hl 0 rfl) ?_
  refine va_get (v := .int (zCnt σ g.toNatClampNeg)) (C := RX0) (T := TX0) (N := 7) (ci := 1) hx hb hts inX0 hown hK hP (4 + g.toNatClampNeg) (rw_bal (vp_lt hg)) rfl 1 (by decide) (hts _ q101) (fun _ h => h) rfl dX4_tapeDoneOn_12 ?_
  refine c_if_ne (tgt := 28) hx hb dX4_tapeDoneOn_15 (by decide) (fun hq => absurd kn0 hq) (fun _ => ?_)
  exact x_throw (cls := xIS) (text := "a balance without a reading") hx hb hst hml hown hts hT htb hP hS fitIS q359 q33 (by decide) (at_IS hts hT) gdIS hl.1 dX4_tapeDoneOn_18 dX4_tapeDoneOn_21 dX4_tapeDoneOn_22 dX4_tapeDoneOn_24 dX4_tapeDoneOn_27 ⟨Nat.le_of_ble_eq_true rfl, Nat.le_of_ble_eq_true rfl⟩ ⟨Nat.le_of_ble_eq_true rfl, Nat.le_of_ble_eq_true rfl⟩ hlocks
