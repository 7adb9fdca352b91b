def sX5_top_j1 (σ : St) (sN : Nat) (mo : Int32) (j : Nat) (b : Int32) : Int64 := (if b < 0 then (0 : Int64) else (sX5_rank (nI sN) (zNow σ b.toNatClampNeg)))
def sX5_top_j2 (σ : St) (sN : Nat) (mo : Int32) (j : Nat) (b : Int32) : Int32 := (if b < 0 then (nI j) else (if mo = 0 then (if (sX5_rank (nI sN) (zNow σ j)) < (sX5_top_j1 σ sN mo j b) then (nI j) else b) else (if (sX5_top_j1 σ sN mo j b) < (sX5_rank (nI sN) (zNow σ j)) then (nI j) else b)))
def sX5_top_j3 (σ : St) (sN : Nat) (mo : Int32) (j : Nat) (b : Int32) : Int32 := (if 0 < (zCnt σ j) then (sX5_top_j2 σ sN mo j b) else b)
def mTop (σ : St) (sN : Nat) (mo : Int32) : Nat → Int32 → Int32
  | 0, b => b
  | k + 1, b => mTop σ sN mo k (sX5_top_j3 σ sN mo (4 * sN + (4 - (k + 1))) b)
theorem mTopIn {σ : St} {sN : Nat} {mo : Int32} {j : Nat} {b : Int32} (hj : j < 16) (hb : ¬ b < 0 → vp_in b 16) : ¬ (sX5_top_j3 σ sN mo j b) < 0 → vp_in (sX5_top_j3 σ sN mo j b) 16 := by
  have hn : vp_in (nI j) 16 := vp_in_nI hj (by omega)
  unfold sX5_top_j3
  (try unfold sX5_top_j2)
  repeat' split
  all_goals first | exact hb | exact fun _ => hn
theorem nX5_top : yX5_top.cls ≠ "java/lang/invoke/MethodHandle" ∧ yX5_top.cls ≠ "java/lang/invoke/VarHandle" ∧ (parseMethodDescriptor yX5_top.desc).map (fun d => d.parameters.length) = some 2 := by decide +kernel
set_option maxHeartbeats 4000000 in
set_option maxRecDepth 100000 in
theorem m_X5_top (l : Launch) (D : va_G) (A : Nat → Prop) (cI cJ : ClassId) (ma : Nat → Nat) (th : Int32) (σ : St) (fr : va_W) (sN : Nat) (mo : Int32) (hs : sN < 4) : IM l yX5_top cX5_top 9 (some .int) 2 [.ref (ma 0), .int (nI sN), .int mo] (mPre D A cI cJ (MW cI cJ ma th σ fr)) D A (some (.int (mTop σ sN mo 4 (-1)))) (MW cI cJ ma 0 σ fr) := by
  refine Met.ofW (cc := cX5_top) (maxL := 9) (ret := (some .int)) (by decide) rfl ?_
  intro p e s m args below meth c s₁ B hml hv
  obtain ⟨rfl, hP, hK, hD⟩ := hv
  have hx := B.exec
  have hb := B.bytes
  have hr := B.returns
  have hts : ∀ w ∈ AW, w.before _ s = true := fun w h => atoms_spec (ws := Cond.code yX5_top cX5_top 9 (some .int) :: AW) B.pre w (List.mem_cons_of_mem _ h)
  have hown : s.vm.findClass RX5 = some m.cls := findClass_of_methodNamed B.named
  have hlocks := B.notSynchronized
  have hS : va_S A s.heap s.heap [] := va_S.rf
  have hl := lv_entry ([.ref (ma 0), .int (nI sN), .int mo]) (n := 9) (Nat.le_of_ble_eq_true rfl)
  rw [lg_entry_eq]
  generalize (lg_sl ([.ref (ma 0), .int (nI sN), .int mo]) ++ List.replicate (9 - (lg_sl ([.ref (ma 0), .int (nI sN), .int mo])).length) Slot.unset).toArray = ls at hl ⊢
  have hl : lv_has ls 9 [(0, .ref (ma 0)), (1, .int (nI sN)), (2, .int mo)] := hl
  have kn0 : ¬ (nI sN) < 0 := nI_pos (by omega)
  have kn1 : ¬ (3 : Int32) < (nI sN) := nI_nlt (a := 3) (by omega) (by omega)
  have kn2 : ¬ 0 < (0 : Int32) := by decide
  refine lv_aload_n hx hb dX5_top_0 rfl (lv_at hl 0 rfl) ?_
  refine lv_iload_n hx hb dX5_top_1 rfl (lv_at hl 1 rfl) ?_
  refine c_if_lt (tgt := 10) hx hb dX5_top_2 (by decide) (fun hq => absurd hq kn0) (fun _ => ?_)
  refine lv_iload_n hx hb dX5_top_5 rfl (lv_at hl 1 rfl) ?_
  refine lv_iconst (v := 3) hx hb dX5_top_6 (by decide) ?_
  refine c_icmp_le (tgt := 14) hx hb dX5_top_7 (by decide) (fun _ => ?_) (fun hq => absurd hq kn1)
  refine lv_iconst (v := 0) hx hb dX5_top_14 (by decide) ?_
  refine va_put (C := RX5) (T := TX5) (N := 11) (ci := 5) (ty := .int) hx hb hts inX5 tyX5 tyX5_ok nmX5 hown hK hP hD hS 0 rfl rfl 0 (by decide) (hts _ q583) (fun _ h => h) rfl rfl rfl rfl (Nat.le_of_ble_eq_true rfl) dX5_top_15 (fun H locs hP hD hS => ?_)
  have hP : va_P D vwCl (MW cI cJ ma (0 : Int32) σ fr) H := hP
  have hD : va_D A (MW cI cJ ma (0 : Int32) σ fr) := hD
  refine lv_aload_n hx hb dX5_top_18 rfl (lv_at hl 0 rfl) ?_
  refine va_get (v := .int (0 : Int32)) (C := RX5) (T := TX5) (N := 11) (ci := 5) hx hb hts inX5 hown hK hP 0 rfl rfl 0 (by decide) (hts _ q583) (fun _ h => h) rfl dX5_top_19 ?_
  refine c_if_le (tgt := 27) hx hb dX5_top_22 (by decide) (fun _ => ?_) (fun hq => absurd hq kn2)
  refine lv_iconst (v := -1) hx hb dX5_top_27 (by decide) ?_
  refine lv_istore_n (lv' := [(3, .int (-1 : Int32)), (0, .ref (ma 0)), (1, .int (nI sN)), (2, .int mo)]) hx hb dX5_top_28 rfl hl (by decide) rfl (fun ls hl => ?_)
  refine lv_iconst (v := 4) hx hb dX5_top_29 (by decide) ?_
  refine lv_iload_n hx hb dX5_top_30 rfl (lv_at hl 2 rfl) ?_
  refine lv_imul hx hb dX5_top_31 ?_
  refine lv_istore (lv' := [(4, .int ((4 : Int32) * (nI sN))), (3, .int (-1 : Int32)), (0, .ref (ma 0)), (1, .int (nI sN)), (2, .int mo)]) hx hb dX5_top_32 hl (by decide) rfl (fun ls hl => ?_)
  have e4 : (4 : Int32) * nI sN = nI (4 * sN) := by rw [show (4 : Int32) = nI 4 from rfl, pk_mul]
  rw [e4] at hl
  have e0 : lv_has ls 9 [(4, .int (nI (4 * sN + (4 - 4)))), (3, .int (-1)), (0, .ref (ma 0)), (1, .int (nI sN)), (2, .int mo)] := by
    have e1 : 4 * sN + (4 - 4) = 4 * sN := by omega
    rw [e1]
    exact lv_sub hl [0, 1, 2, 3, 4] rfl
  refine p_loop (α := Int32) (J := 34) (nL := 9) (st := []) (fun k a => [(4, .int (nI (4 * sN + (4 - k)))), (3, .int a), (0, .ref (ma 0)), (1, .int (nI sN)), (2, .int mo)]) (fun k a => k ≤ 4 ∧ (¬ a < 0 → vp_in a 16) ∧ mTop σ sN mo k a = mTop σ sN mo 4 (-1)) (fun k b ls hI hl ih => ?_) 4 (-1) ⟨Nat.le_refl _, fun h => absurd (show (-1 : Int32) < 0 by decide) h, rfl⟩ ls e0
  obtain ⟨hk, hbv, hI⟩ := hI
  try dsimp only at hI hl
  refine lv_iload hx hb dX5_top_34 (lv_at hl 0 rfl) ?_
  refine lv_iconst (v := 4) hx hb dX5_top_36 (by decide) ?_
  refine lv_iload_n hx hb dX5_top_37 rfl (lv_at hl 3 rfl) ?_
  refine lv_imul hx hb dX5_top_38 ?_
  refine lv_iconst (v := 4) hx hb dX5_top_39 (by decide) ?_
  refine lv_iadd hx hb dX5_top_40 ?_
  have e5 : (4 : Int32) * nI sN + (4 : Int32) = nI (4 * sN + 4) := by rw [e4, show (4 : Int32) = nI 4 from rfl, nI_add]
  rw [e5]
  refine c_icmp_ge (tgt := 127) hx hb dX5_top_41 (by decide) (fun h => ?_) (fun h => ?_)
  · have hk0 : k = 0 := by
      rcases Nat.eq_zero_or_pos k with q | q
      · exact q
      · exact absurd (nI_lt (by omega) (by omega)) h
    subst hk0
    rw [mTop] at hI
    refine lv_iload_n hx hb dX5_top_127 rfl (lv_at hl 1 rfl) ?_
    exact W.iret hx hb hr (fun t ht hW => ⟨by rw [hI], by rw [ht]; exact hP, hS.F ht⟩) hS.2.2 dX5_top_128
  · obtain ⟨k, rfl⟩ : ∃ k2, k = k2 + 1 := by
      rcases k with _ | k2
      · exact absurd h (nI_nlt (Nat.le_refl _) (by omega))
      · exact ⟨k2, rfl⟩
    obtain ⟨j, hj0⟩ : ∃ j, j = 4 * sN + (4 - (k + 1)) := ⟨_, rfl⟩
    rw [mTop, ← hj0] at hI
    rw [← hj0] at hl
    have hj : j < 16 := by omega
    have hj1 : j + 1 = 4 * sN + (4 - k) := by omega
    have eK : (nI j) + 1 = nI (4 * sN + (4 - k)) := by rw [← nI_succ, hj1]
    refine lv_aload_n hx hb dX5_top_44 rfl (lv_at hl 2 rfl) ?_
    refine va_get (v := .ref (ma 1)) (C := RX5) (T := TX5) (N := 11) (ci := 5) hx hb hts inX5 hown hK hP 0 rfl rfl 1 (by decide) (hts _ q584) (fun _ h => h) rfl dX5_top_45 ?_
    refine lv_iload hx hb dX5_top_48 (lv_at hl 0 rfl) ?_
    refine va_iald (f := (zCnt σ)) hx hb hK hP 1 0 rfl rfl (vp_in_nI (by omega) (by omega)) dX5_top_50 ?_
    refine p_top (w := .int (zCnt σ j)) (by rw [nI_clamp (by omega)]) ?_
    refine p_join (J := 121) (nL := 9) (st := []) (lv := [(3, .int (sX5_top_j3 σ sN mo j b)), (4, .int (nI j)), (0, .ref (ma 0)), (1, .int (nI sN)), (2, .int mo)]) (fun ls hl => ?_) (fun K1 => ?_)
    rotate_left
    · refine c_if_le (tgt := 121) hx hb dX5_top_51 (by decide) (fun h1 => ?_) (fun h1 => ?_)
      · skip
        simp only [sX5_top_j3, if_neg h1] at K1
        exact K1 ls (lv_sub hl [1, 0, 2, 3, 4] rfl)
      · skip
        refine lv_iload_n hx hb dX5_top_54 rfl (lv_at hl 3 rfl) ?_
        refine lv_aload_n hx hb dX5_top_55 rfl (lv_at hl 2 rfl) ?_
        refine va_get (v := .ref (ma 2)) (C := RX5) (T := TX5) (N := 11) (ci := 5) hx hb hts inX5 hown hK hP 0 rfl rfl 2 (by decide) (hts _ q585) (fun _ h => h) rfl dX5_top_56 ?_
        refine lv_iload hx hb dX5_top_59 (lv_at hl 0 rfl) ?_
        refine va_lald (f := (zNow σ)) hx hb hK hP 2 1 rfl rfl (vp_in_nI (by omega) (by omega)) dX5_top_61 ?_
        refine p_top (w := .long (zNow σ j)) (by rw [nI_clamp (by omega)]) ?_
        refine p_S (rest := []) hx hb hml hown hts (m_X5_rank l (nI sN) (zNow σ j)) q706 q707 q26 q708 nX5_rank ⟨Nat.le_of_ble_eq_true rfl, Nat.le_of_ble_eq_true rfl⟩ hl.1 rfl rfl (Nat.le_of_ble_eq_true rfl) dX5_top_62 ⟨Nat.zero_le _, Nat.zero_le _⟩ blind_c (fun _ _ _ => trivial) ?_
        refine lv_lstore (lv' := [(5, .long (sX5_rank (nI sN) (zNow σ j))), (4, .int (nI j)), (3, .int b), (0, .ref (ma 0)), (1, .int (nI sN)), (2, .int mo)]) hx hb dX5_top_65 hl (by decide) rfl (fun ls hl => ?_)
        refine lv_iload_n hx hb dX5_top_67 rfl (lv_at hl 2 rfl) ?_
        refine p_join (J := 85) (nL := 9) (st := [.long (sX5_top_j1 σ sN mo j b)]) (lv := [(5, .long (sX5_rank (nI sN) (zNow σ j))), (4, .int (nI j)), (3, .int b), (0, .ref (ma 0)), (1, .int (nI sN)), (2, .int mo)]) (fun ls hl => ?_) (fun K2 => ?_)
        rotate_left
        · refine c_if_ge (tgt := 75) hx hb dX5_top_68 (by decide) (fun h2 => ?_) (fun h2 => ?_)
          · skip
            refine lv_iload_n hx hb dX5_top_75 rfl (lv_at hl 4 rfl) ?_
            refine lv_aload_n hx hb dX5_top_76 rfl (lv_at hl 3 rfl) ?_
            refine va_get (v := .ref (ma 2)) (C := RX5) (T := TX5) (N := 11) (ci := 5) hx hb hts inX5 hown hK hP 0 rfl rfl 2 (by decide) (hts _ q585) (fun _ h => h) rfl dX5_top_77 ?_
            refine lv_iload_n hx hb dX5_top_80 rfl (lv_at hl 2 rfl) ?_
            refine va_lald (f := (zNow σ)) hx hb hK hP 2 1 rfl rfl (hbv (by assumption)) dX5_top_81 ?_
            refine p_S (rest := []) hx hb hml hown hts (m_X5_rank l (nI sN) (zNow σ b.toNatClampNeg)) q706 q707 q26 q708 nX5_rank ⟨Nat.le_of_ble_eq_true rfl, Nat.le_of_ble_eq_true rfl⟩ hl.1 rfl rfl (Nat.le_of_ble_eq_true rfl) dX5_top_82 ⟨Nat.zero_le _, Nat.zero_le _⟩ blind_c (fun _ _ _ => trivial) ?_
            simp only [sX5_top_j1, if_neg h2] at K2
            exact K2 ls (lv_sub hl [0, 1, 2, 3, 4, 5] rfl)
          · skip
            refine lv_lconst (v := 0) hx hb dX5_top_71 (by decide) ?_
            refine lv_goto (tgt := 85) hx hb dX5_top_72 (by decide) ?_
            simp only [sX5_top_j1, if_pos h2] at K2
            exact K2 ls (lv_sub hl [0, 1, 2, 3, 4, 5] rfl)
        refine lv_lstore (lv' := [(7, .long (sX5_top_j1 σ sN mo j b)), (5, .long (sX5_rank (nI sN) (zNow σ j))), (4, .int (nI j)), (3, .int b), (0, .ref (ma 0)), (1, .int (nI sN)), (2, .int mo)]) hx hb dX5_top_85 hl (by decide) rfl (fun ls hl => ?_)
        refine lv_iload_n hx hb dX5_top_87 rfl (lv_at hl 3 rfl) ?_
        refine p_join (J := 120) (nL := 9) (st := [.int (sX5_top_j2 σ sN mo j b)]) (lv := [(7, .long (sX5_top_j1 σ sN mo j b)), (5, .long (sX5_rank (nI sN) (zNow σ j))), (4, .int (nI j)), (3, .int b), (0, .ref (ma 0)), (1, .int (nI sN)), (2, .int mo)]) (fun ls hl => ?_) (fun K3 => ?_)
        rotate_left
        · refine c_if_lt (tgt := 114) hx hb dX5_top_88 (by decide) (fun h3 => ?_) (fun h3 => ?_)
          · skip
            refine lv_iload hx hb dX5_top_114 (lv_at hl 2 rfl) ?_
            refine lv_goto (tgt := 120) hx hb dX5_top_116 (by decide) ?_
            simp only [sX5_top_j2, if_pos h3] at K3
            exact K3 ls (lv_sub hl [0, 1, 2, 3, 4, 5, 6] rfl)
          · skip
            refine lv_iload_n hx hb dX5_top_91 rfl (lv_at hl 6 rfl) ?_
            refine c_if_eq (tgt := 106) hx hb dX5_top_92 (by decide) (fun h4 => ?_) (fun h4 => ?_)
            · skip
              refine lv_lload hx hb dX5_top_106 (lv_at hl 1 rfl) ?_
              refine lv_lload hx hb dX5_top_108 (lv_at hl 0 rfl) ?_
              refine c_lcmp_ge (tgt := 119) hx hb dX5_top_110 dX5_top_111 (by decide) (fun h5 => ?_) (fun h5 => ?_)
              · skip
                refine lv_iload_n hx hb dX5_top_119 rfl (lv_at hl 3 rfl) ?_
                simp only [sX5_top_j2, if_neg h3, if_pos h4, if_neg h5] at K3
                exact K3 ls (lv_sub hl [0, 1, 2, 3, 4, 5, 6] rfl)
              · skip
                refine lv_iload hx hb dX5_top_114 (lv_at hl 2 rfl) ?_
                refine lv_goto (tgt := 120) hx hb dX5_top_116 (by decide) ?_
                simp only [sX5_top_j2, if_neg h3, if_pos h4, if_pos h5] at K3
                exact K3 ls (lv_sub hl [0, 1, 2, 3, 4, 5, 6] rfl)
            · skip
              refine lv_lload hx hb dX5_top_95 (lv_at hl 1 rfl) ?_
              refine lv_lload hx hb dX5_top_97 (lv_at hl 0 rfl) ?_
              refine c_lcmp_le (tgt := 119) hx hb dX5_top_99 dX5_top_100 (by decide) (fun h6 => ?_) (fun h6 => ?_)
              · skip
                refine lv_iload_n hx hb dX5_top_119 rfl (lv_at hl 3 rfl) ?_
                simp only [sX5_top_j2, if_neg h3, if_neg h4, if_neg h6] at K3
                exact K3 ls (lv_sub hl [0, 1, 2, 3, 4, 5, 6] rfl)
              · skip
                refine lv_goto (tgt := 114) hx hb dX5_top_103 (by decide) ?_
                refine lv_iload hx hb dX5_top_114 (lv_at hl 2 rfl) ?_
                refine lv_goto (tgt := 120) hx hb dX5_top_116 (by decide) ?_
                simp only [sX5_top_j2, if_neg h3, if_neg h4, if_pos h6] at K3
                exact K3 ls (lv_sub hl [0, 1, 2, 3, 4, 5, 6] rfl)
        refine lv_istore_n (lv' := [(3, .int (sX5_top_j2 σ sN mo j b)), (7, .long (sX5_top_j1 σ sN mo j b)), (5, .long (sX5_rank (nI sN) (zNow σ j))), (4, .int (nI j)), (0, .ref (ma 0)), (1, .int (nI sN)), (2, .int mo)]) hx hb dX5_top_120 rfl hl (by decide) rfl (fun ls hl => ?_)
        simp only [sX5_top_j3, if_pos h1] at K1
        exact K1 ls (lv_sub hl [0, 3, 4, 5, 6] rfl)
    refine lv_iinc (v := ((nI j) + 1)) (lv' := [(4, .int ((nI j) + 1)), (3, .int (sX5_top_j3 σ sN mo j b)), (0, .ref (ma 0)), (1, .int (nI sN)), (2, .int mo)]) hx hb dX5_top_121 hl (k := 1) rfl (by first | rfl | decide) (by decide) rfl (fun ls hl => ?_)
    rw [eK] at hl
    refine lv_goto (tgt := 34) hx hb dX5_top_124 (by decide) ?_
    exact ih k (sX5_top_j3 σ sN mo j b) ls (by omega) ⟨by omega, mTopIn hj hbv, hI⟩ (lv_sub hl [0, 1, 2, 3, 4] rfl)
set_option maxHeartbeats 4000000 in
set_option maxRecDepth 100000 in
theorem m_X5_topA (l : Launch) (D : va_G) (A : Nat → Prop) (cI cJ : ClassId) (ma : Nat → Nat) (th : Int32) (σ : St) (fr : va_W) (a mo : Int32) (h1 : a < 0) : IM l yX5_top cX5_top 9 (some .int) 0 [.ref (ma 0), .int a, .int mo] (mPre D A cI cJ (MW cI cJ ma th σ fr)) D A (some (.int 0)) (MW cI cJ ma 1 σ fr) := by
  refine Met.ofW (cc := cX5_top) (maxL := 9) (ret := (some .int)) (by decide) rfl ?_
  intro p e s m args below meth c s₁ B hml hv
  obtain ⟨rfl, hP, hK, hD⟩ := hv
  have hx := B.exec
  have hb := B.bytes
  have hr := B.returns
  have hts : ∀ w ∈ AW, w.before _ s = true := fun w h => atoms_spec (ws := Cond.code yX5_top cX5_top 9 (some .int) :: AW) B.pre w (List.mem_cons_of_mem _ h)
  have hown : s.vm.findClass RX5 = some m.cls := findClass_of_methodNamed B.named
  have hlocks := B.notSynchronized
  have hS : va_S A s.heap s.heap [] := va_S.rf
  have hl := lv_entry ([.ref (ma 0), .int a, .int mo]) (n := 9) (Nat.le_of_ble_eq_true rfl)
  rw [lg_entry_eq]
  generalize (lg_sl ([.ref (ma 0), .int a, .int mo]) ++ List.replicate (9 - (lg_sl ([.ref (ma 0), .int a, .int mo])).length) Slot.unset).toArray = ls at hl ⊢
  have hl : lv_has ls 9 [(0, .ref (ma 0)), (1, .int a), (2, .int mo)] := hl
  have kn2 : 0 < (1 : Int32) := by decide
  refine lv_aload_n hx hb dX5_top_0 rfl (lv_at hl 0 rfl) ?_
  refine lv_iload_n hx hb dX5_top_1 rfl (lv_at hl 1 rfl) ?_
  refine c_if_lt (tgt := 10) hx hb dX5_top_2 (by decide) (fun _ => ?_) (fun hq => absurd h1 hq)
  refine lv_iconst (v := 1) hx hb dX5_top_10 (by decide) ?_
  refine lv_goto (tgt := 15) hx hb dX5_top_11 (by decide) ?_
  refine va_put (C := RX5) (T := TX5) (N := 11) (ci := 5) (ty := .int) hx hb hts inX5 tyX5 tyX5_ok nmX5 hown hK hP hD hS 0 rfl rfl 0 (by decide) (hts _ q583) (fun _ h => h) rfl rfl rfl rfl (Nat.le_of_ble_eq_true rfl) dX5_top_15 (fun H locs hP hD hS => ?_)
  have hP : va_P D vwCl (MW cI cJ ma (1 : Int32) σ fr) H := hP
  have hD : va_D A (MW cI cJ ma (1 : Int32) σ fr) := hD
  refine lv_aload_n hx hb dX5_top_18 rfl (lv_at hl 0 rfl) ?_
  refine va_get (v := .int (1 : Int32)) (C := RX5) (T := TX5) (N := 11) (ci := 5) hx hb hts inX5 hown hK hP 0 rfl rfl 0 (by decide) (hts _ q583) (fun _ h => h) rfl dX5_top_19 ?_
  refine c_if_le (tgt := 27) hx hb dX5_top_22 (by decide) (fun hq => absurd kn2 hq) (fun _ => ?_)
  refine lv_iconst (v := 0) hx hb dX5_top_25 (by decide) ?_
  exact W.iret hx hb hr (fun t ht hW => ⟨rfl, by rw [ht]; exact hP, hS.F ht⟩) hS.2.2 dX5_top_26
set_option maxHeartbeats 4000000 in
set_option maxRecDepth 100000 in
theorem m_X5_topB (l : Launch) (D : va_G) (A : Nat → Prop) (cI cJ : ClassId) (ma : Nat → Nat) (th : Int32) (σ : St) (fr : va_W) (a mo : Int32) (h1 : ¬ a < 0) (h2 : (3 : Int32) < a) : IM l yX5_top cX5_top 9 (some .int) 0 [.ref (ma 0), .int a, .int mo] (mPre D A cI cJ (MW cI cJ ma th σ fr)) D A (some (.int 0)) (MW cI cJ ma 1 σ fr) := by
  refine Met.ofW (cc := cX5_top) (maxL := 9) (ret := (some .int)) (by decide) rfl ?_
  intro p e s m args below meth c s₁ B hml hv
  obtain ⟨rfl, hP, hK, hD⟩ := hv
  have hx := B.exec
  have hb := B.bytes
  have hr := B.returns
  have hts : ∀ w ∈ AW, w.before _ s = true := fun w h => atoms_spec (ws := Cond.code yX5_top cX5_top 9 (some .int) :: AW) B.pre w (List.mem_cons_of_mem _ h)
  have hown : s.vm.findClass RX5 = some m.cls := findClass_of_methodNamed B.named
  have hlocks := B.notSynchronized
  have hS : va_S A s.heap s.heap [] := va_S.rf
  have hl := lv_entry ([.ref (ma 0), .int a, .int mo]) (n := 9) (Nat.le_of_ble_eq_true rfl)
  rw [lg_entry_eq]
  generalize (lg_sl ([.ref (ma 0), .int a, .int mo]) ++ List.replicate (9 - (lg_sl ([.ref (ma 0), .int a, .int mo])).length) Slot.unset).toArray = ls at hl ⊢
  have hl : lv_has ls 9 [(0, .ref (ma 0)), (1, .int a), (2, .int mo)] := hl
  have kn2 : 0 < (1 : Int32) := by decide
  refine lv_aload_n hx hb dX5_top_0 rfl (lv_at hl 0 rfl) ?_
  refine lv_iload_n hx hb dX5_top_1 rfl (lv_at hl 1 rfl) ?_
  refine c_if_lt (tgt := 10) hx hb dX5_top_2 (by decide) (fun hq => absurd hq h1) (fun _ => ?_)
  refine lv_iload_n hx hb dX5_top_5 rfl (lv_at hl 1 rfl) ?_
  refine lv_iconst (v := 3) hx hb dX5_top_6 (by decide) ?_
  refine c_icmp_le (tgt := 14) hx hb dX5_top_7 (by decide) (fun hq => absurd h2 hq) (fun _ => ?_)
  refine lv_iconst (v := 1) hx hb dX5_top_10 (by decide) ?_
  refine lv_goto (tgt := 15) hx hb dX5_top_11 (by decide) ?_
  refine va_put (C := RX5) (T := TX5) (N := 11) (ci := 5) (ty := .int) hx hb hts inX5 tyX5 tyX5_ok nmX5 hown hK hP hD hS 0 rfl rfl 0 (by decide) (hts _ q583) (fun _ h => h) rfl rfl rfl rfl (Nat.le_of_ble_eq_true rfl) dX5_top_15 (fun H locs hP hD hS => ?_)
  have hP : va_P D vwCl (MW cI cJ ma (1 : Int32) σ fr) H := hP
  have hD : va_D A (MW cI cJ ma (1 : Int32) σ fr) := hD
  refine lv_aload_n hx hb dX5_top_18 rfl (lv_at hl 0 rfl) ?_
  refine va_get (v := .int (1 : Int32)) (C := RX5) (T := TX5) (N := 11) (ci := 5) hx hb hts inX5 hown hK hP 0 rfl rfl 0 (by decide) (hts _ q583) (fun _ h => h) rfl dX5_top_19 ?_
  refine c_if_le (tgt := 27) hx hb dX5_top_22 (by decide) (fun hq => absurd kn2 hq) (fun _ => ?_)
  refine lv_iconst (v := 0) hx hb dX5_top_25 (by decide) ?_
  exact W.iret hx hb hr (fun t ht hW => ⟨rfl, by rw [ht]; exact hP, hS.F ht⟩) hS.2.2 dX5_top_26
