def sX4_top_j1 (σ : St) (mo : Int32) (j : Nat) (b : Int32) (r : Int64) : Int32 := (if mo = 0 then (if (so_rank (j / 4) (zNow σ j)) < r then (1 : Int32) else (0 : Int32)) else (if r < (so_rank (j / 4) (zNow σ j)) then (1 : Int32) else (0 : Int32)))
def sX4_top_j2 (σ : St) (mo : Int32) (j : Nat) (b : Int32) (r : Int64) : Int32 := (if (zCnt σ j) = 0 then b else (if b = (-1 : Int32) then (nI j) else (if (sX4_top_j1 σ mo j b r) = 0 then b else (nI j))))
def sX4_top_j3 (σ : St) (mo : Int32) (j : Nat) (b : Int32) (r : Int64) : Int64 := (if (zCnt σ j) = 0 then r else (if b = (-1 : Int32) then (so_rank (j / 4) (zNow σ j)) else (if (sX4_top_j1 σ mo j b r) = 0 then r else (so_rank (j / 4) (zNow σ j)))))
/-- the best number after the places 4 s + 4 - k .. 4 s + 3 -/
def cTop (σ : St) (mo : Int32) (sN : Nat) : Nat → Int32 → Int64 → Int32
  | 0, b, _ => b
  | k + 1, b, r => cTop σ mo sN k (sX4_top_j2 σ mo (4 * sN + (4 - (k + 1))) b r) (sX4_top_j3 σ mo (4 * sN + (4 - (k + 1))) b r)
theorem nX4_top : yX4_top.cls ≠ "java/lang/invoke/MethodHandle" ∧ yX4_top.cls ≠ "java/lang/invoke/VarHandle" ∧ (parseMethodDescriptor yX4_top.desc).map (fun d => d.parameters.length) = some 2 := by decide +kernel
set_option maxHeartbeats 4000000 in
set_option maxRecDepth 100000 in
theorem m_X4_top (l : Launch) (D : va_G) (A : Nat → Prop) (cI cB : ClassId) (ra : Nat → Nat) (σ : St) (fr : va_W) (sN : Nat) (mo : Int32) (hs : sN < 4) : PM l yX4_top cX4_top 12 (some .int) 6 [.ref (ra 0), .int (nI sN), .int mo] (rPre D A cI cB (RW cI cB ra σ fr)) (.int (cTop σ mo sN 4 (-1) 0)) := by
  refine Met.ofW (cc := cX4_top) (maxL := 12) (ret := (some .int)) (by decide) rfl ?_
  intro p e s m args below meth c s₁ B hml hv
  obtain ⟨rfl, hP, hK, hD, hA, hN, hT⟩ := hv
  have hx := B.exec
  have hb := B.bytes
  have hr := B.returns
  have hts : ∀ w ∈ AW, w.before _ s = true := fun w h => atoms_spec (ws := Cond.code yX4_top cX4_top 12 (some .int) :: AW) B.pre w (List.mem_cons_of_mem _ h)
  have hown : s.vm.findClass RX4 = some m.cls := findClass_of_methodNamed B.named
  have hlocks := B.notSynchronized
  have hS : va_S A s.heap s.heap [] := va_S.rf
  have hK0 := hK.sub (tys' := []) [] rfl
  have hl := lv_entry ([.ref (ra 0), .int (nI sN), .int mo]) (n := 12) (Nat.le_of_ble_eq_true rfl)
  rw [lg_entry_eq]
  generalize (lg_sl ([.ref (ra 0), .int (nI sN), .int mo]) ++ List.replicate (12 - (lg_sl ([.ref (ra 0), .int (nI sN), .int mo])).length) Slot.unset).toArray = ls at hl ⊢
  have hl : lv_has ls 12 [(0, .ref (ra 0)), (1, .int (nI sN)), (2, .int mo)] := hl
  have kn0 : ¬ (nI sN) < 0 := nI_pos (by omega)
  have kn1 : (nI sN) < (4 : Int32) := nI_lt (b := 4) (by omega) (by omega)
  refine lv_iload_n hx hb dX4_top_0 rfl (lv_at hl 1 rfl) ?_
  refine c_if_lt (tgt := 9) hx hb dX4_top_1 (by decide) (fun hq => absurd hq kn0) (fun _ => ?_)
  refine lv_iload_n hx hb dX4_top_4 rfl (lv_at hl 1 rfl) ?_
  refine lv_iconst (v := 4) hx hb dX4_top_5 (by decide) ?_
  refine c_icmp_lt (tgt := 19) hx hb dX4_top_6 (by decide) (fun _ => ?_) (fun hq => absurd kn1 hq)
  refine lv_iconst (v := -1) hx hb dX4_top_19 (by decide) ?_
  refine lv_istore_n (lv' := [(3, .int (-1 : Int32)), (0, .ref (ra 0)), (1, .int (nI sN)), (2, .int mo)]) hx hb dX4_top_20 rfl hl (by decide) rfl (fun ls hl => ?_)
  refine lv_lconst (v := 0) hx hb dX4_top_21 (by decide) ?_
  refine lv_lstore (lv' := [(4, .long (0 : Int64)), (3, .int (-1 : Int32)), (0, .ref (ra 0)), (1, .int (nI sN)), (2, .int mo)]) hx hb dX4_top_22 hl (by decide) rfl (fun ls hl => ?_)
  refine lv_iload_n hx hb dX4_top_24 rfl (lv_at hl 3 rfl) ?_
  refine lv_iconst (v := 4) hx hb dX4_top_25 (by decide) ?_
  refine lv_imul hx hb dX4_top_26 ?_
  refine lv_istore (lv' := [(6, .int ((nI sN) * (4 : Int32))), (4, .long (0 : Int64)), (3, .int (-1 : Int32)), (0, .ref (ra 0)), (1, .int (nI sN)), (2, .int mo)]) hx hb dX4_top_27 hl (by decide) rfl (fun ls hl => ?_)
  refine lv_iload hx hb dX4_top_29 (lv_at hl 0 rfl) ?_
  refine lv_istore (lv' := [(7, .int ((nI sN) * (4 : Int32))), (6, .int ((nI sN) * (4 : Int32))), (4, .long (0 : Int64)), (3, .int (-1 : Int32)), (0, .ref (ra 0)), (1, .int (nI sN)), (2, .int mo)]) hx hb dX4_top_31 hl (by decide) rfl (fun ls hl => ?_)
  have e4 : nI sN * (4 : Int32) = nI (4 * sN) := by rw [show (4 : Int32) = nI 4 from rfl, pk_mul, Nat.mul_comm]
  rw [e4] at hl
  have e0 : lv_has ls 12 [(7, .int (nI (4 * sN + (4 - 4)))), (3, .int (-1)), (4, .long 0), (6, .int (nI (4 * sN))), (0, .ref (ra 0)), (1, .int (nI sN)), (2, .int mo)] := by
    have e1 : 4 * sN + (4 - 4) = 4 * sN := by omega
    rw [e1]
    exact lv_sub hl [0, 3, 2, 1, 4, 5, 6] rfl
  refine p_loop (α := Int32 × Int64) (J := 33) (nL := 12) (st := []) (fun k a => [(7, .int (nI (4 * sN + (4 - k)))), (3, .int a.1), (4, .long a.2), (6, .int (nI (4 * sN))), (0, .ref (ra 0)), (1, .int (nI sN)), (2, .int mo)]) (fun k a => k ≤ 4 ∧ cTop σ mo sN k a.1 a.2 = cTop σ mo sN 4 (-1) 0) (fun k a ls hI hl ih => ?_) 4 (-1, 0) ⟨Nat.le_refl _, rfl⟩ ls e0
  obtain ⟨b, r⟩ := a
  obtain ⟨hk, hI⟩ := hI
  try dsimp only at hI hl
  refine lv_iload hx hb dX4_top_33 (lv_at hl 0 rfl) ?_
  refine lv_iload hx hb dX4_top_35 (lv_at hl 3 rfl) ?_
  refine lv_iconst (v := 4) hx hb dX4_top_37 (by decide) ?_
  refine lv_iadd hx hb dX4_top_38 ?_
  have e5 : nI (4 * sN) + (4 : Int32) = nI (4 * sN + 4) := by rw [show (4 : Int32) = nI 4 from rfl, nI_add]
  rw [e5]
  refine c_icmp_ge (tgt := 135) hx hb dX4_top_39 (by decide) (fun h => ?_) (fun h => ?_)
  · have hk0 : k = 0 := by
      rcases Nat.eq_zero_or_pos k with q | q
      · exact q
      · exact absurd (nI_lt (by omega) (by omega)) h
    subst hk0
    rw [cTop] at hI
    refine lv_iload_n hx hb dX4_top_135 rfl (lv_at hl 1 rfl) ?_
    exact W.iret hx hb hr (fun t ht hW => pq_i hI ht) nil_free dX4_top_136
  · obtain ⟨k, rfl⟩ : ∃ k2, k = k2 + 1 := by
      rcases k with _ | k2
      · exact absurd h (nI_nlt (Nat.le_refl _) (by omega))
      · exact ⟨k2, rfl⟩
    obtain ⟨j, hj0⟩ : ∃ j, j = 4 * sN + (4 - (k + 1)) := ⟨_, rfl⟩
    rw [cTop, ← hj0] at hI
    rw [← hj0] at hl
    have hj : j < 16 := by omega
    have hj1 : j + 1 = 4 * sN + (4 - k) := by omega
    have eK : (nI j) + 1 = nI (4 * sN + (4 - k)) := by rw [← nI_succ, hj1]
    refine lv_aload_n hx hb dX4_top_42 rfl (lv_at hl 4 rfl) ?_
    refine va_get (v := .ref (ra 1)) (C := RX4) (T := TX4) (N := 5) (ci := 4) hx hb hts inX4 hown hK hP 0 rfl rfl 0 (by decide) (hts _ q127) (fun _ h => h) rfl dX4_top_43 ?_
    refine lv_iload hx hb dX4_top_46 (lv_at hl 0 rfl) ?_
    refine va_aldq hx hb hK hP 1 1 rfl rfl (vp_in_nI (by omega) (by omega)) dX4_top_48 ?_
    refine p_top (w := .ref (ra (4 + j))) (by rw [nI_clamp (by omega)]; rfl) ?_
    refine lv_astore (lv' := [(8, .ref (ra (4 + j))), (7, .int (nI j)), (3, .int b), (4, .long r), (6, .int (nI (4 * sN))), (0, .ref (ra 0)), (1, .int (nI sN)), (2, .int mo)]) hx hb dX4_top_49 hl (by decide) rfl (fun ls hl => ?_)
    refine lv_aload hx hb dX4_top_51 (lv_at hl 0 rfl) ?_
    refine va_get (v := .int (zCnt σ j)) (C := RX0) (T := TX0) (N := 7) (ci := 1) hx hb hts inX0 hown hK hP (4 + j) (rw_bal (hj)) rfl 1 (by decide) (hts _ q101) (fun _ h => h) rfl dX4_top_53 ?_
    refine p_join (J := 129) (nL := 12) (st := []) (lv := [(8, .ref (ra (4 + j))), (7, .int (nI j)), (3, .int (sX4_top_j2 σ mo j b r)), (4, .long (sX4_top_j3 σ mo j b r)), (6, .int (nI (4 * sN))), (0, .ref (ra 0)), (1, .int (nI sN)), (2, .int mo)]) (fun ls hl => ?_) (fun K1 => ?_)
    rotate_left
    · refine c_if_ne (tgt := 62) hx hb dX4_top_56 (by decide) (fun h1 => ?_) (fun h1 => ?_)
      · skip
        refine lv_aload hx hb dX4_top_62 (lv_at hl 0 rfl) ?_
        refine va_get (v := .ref (ra (20 + j / 4))) (C := RX0) (T := TX0) (N := 7) (ci := 1) hx hb hts inX0 hown hK hP (4 + j) (rw_bal (hj)) rfl 0 (by decide) (hts _ q99) (fun _ h => h) rfl dX4_top_64 ?_
        refine lv_aload hx hb dX4_top_67 (lv_at hl 0 rfl) ?_
        refine va_get (v := .long (zNow σ j)) (C := RX0) (T := TX0) (N := 7) (ci := 1) hx hb hts inX0 hown hK hP (4 + j) (rw_bal (hj)) rfl 2 (by decide) (hts _ q103) (fun _ h => h) rfl dX4_top_69 ?_
        refine u_rank (k := (j / 4)) (rest := []) hx hb hml hown hts hA hK0 ((by omega)) (rw_soP hP ((by omega))) q557 ⟨Nat.le_of_ble_eq_true rfl, Nat.le_of_ble_eq_true rfl⟩ ⟨Nat.zero_le _, Nat.zero_le _⟩ hl.1 (Nat.le_of_ble_eq_true rfl) dX4_top_72 ?_
        refine lv_lstore (lv' := [(9, .long (so_rank (j / 4) (zNow σ j))), (8, .ref (ra (4 + j))), (7, .int (nI j)), (3, .int b), (4, .long r), (6, .int (nI (4 * sN))), (0, .ref (ra 0)), (1, .int (nI sN)), (2, .int mo)]) hx hb dX4_top_75 hl (by decide) rfl (fun ls hl => ?_)
        refine lv_iload_n hx hb dX4_top_77 rfl (lv_at hl 8 rfl) ?_
        refine p_join (J := 110) (nL := 12) (st := [.int (sX4_top_j1 σ mo j b r)]) (lv := [(9, .long (so_rank (j / 4) (zNow σ j))), (8, .ref (ra (4 + j))), (7, .int (nI j)), (3, .int b), (4, .long r), (6, .int (nI (4 * sN))), (0, .ref (ra 0)), (1, .int (nI sN)), (2, .int mo)]) (fun ls hl => ?_) (fun K2 => ?_)
        rotate_left
        · refine c_if_eq (tgt := 97) hx hb dX4_top_78 (by decide) (fun h2 => ?_) (fun h2 => ?_)
          · skip
            refine lv_lload hx hb dX4_top_97 (lv_at hl 0 rfl) ?_
            refine lv_lload hx hb dX4_top_99 (lv_at hl 4 rfl) ?_
            refine c_lcmp_ge (tgt := 109) hx hb dX4_top_101 dX4_top_102 (by decide) (fun h3 => ?_) (fun h3 => ?_)
            · skip
              refine lv_iconst (v := 0) hx hb dX4_top_109 (by decide) ?_
              simp only [sX4_top_j1, if_pos h2, if_neg h3] at K2
              exact K2 ls (lv_sub hl [0, 1, 2, 3, 4, 5, 6, 7, 8] rfl)
            · skip
              refine lv_iconst (v := 1) hx hb dX4_top_105 (by decide) ?_
              refine lv_goto (tgt := 110) hx hb dX4_top_106 (by decide) ?_
              simp only [sX4_top_j1, if_pos h2, if_pos h3] at K2
              exact K2 ls (lv_sub hl [0, 1, 2, 3, 4, 5, 6, 7, 8] rfl)
          · skip
            refine lv_lload hx hb dX4_top_81 (lv_at hl 0 rfl) ?_
            refine lv_lload hx hb dX4_top_83 (lv_at hl 4 rfl) ?_
            refine c_lcmp_le (tgt := 93) hx hb dX4_top_85 dX4_top_86 (by decide) (fun h4 => ?_) (fun h4 => ?_)
            · skip
              refine lv_iconst (v := 0) hx hb dX4_top_93 (by decide) ?_
              refine lv_goto (tgt := 110) hx hb dX4_top_94 (by decide) ?_
              simp only [sX4_top_j1, if_neg h2, if_neg h4] at K2
              exact K2 ls (lv_sub hl [0, 1, 2, 3, 4, 5, 6, 7, 8] rfl)
            · skip
              refine lv_iconst (v := 1) hx hb dX4_top_89 (by decide) ?_
              refine lv_goto (tgt := 110) hx hb dX4_top_90 (by decide) ?_
              simp only [sX4_top_j1, if_neg h2, if_pos h4] at K2
              exact K2 ls (lv_sub hl [0, 1, 2, 3, 4, 5, 6, 7, 8] rfl)
        refine lv_istore (lv' := [(11, .int (sX4_top_j1 σ mo j b r)), (9, .long (so_rank (j / 4) (zNow σ j))), (8, .ref (ra (4 + j))), (7, .int (nI j)), (3, .int b), (4, .long r), (6, .int (nI (4 * sN))), (0, .ref (ra 0)), (1, .int (nI sN)), (2, .int mo)]) hx hb dX4_top_110 hl (by decide) rfl (fun ls hl => ?_)
        refine lv_iload_n hx hb dX4_top_112 rfl (lv_at hl 4 rfl) ?_
        refine lv_iconst (v := -1) hx hb dX4_top_113 (by decide) ?_
        refine c_icmp_eq (tgt := 122) hx hb dX4_top_114 (by decide) (fun h5 => ?_) (fun h5 => ?_)
        · skip
          refine lv_iload hx hb dX4_top_122 (lv_at hl 3 rfl) ?_
          refine lv_istore_n (lv' := [(3, .int (nI j)), (11, .int (sX4_top_j1 σ mo j b r)), (9, .long (so_rank (j / 4) (zNow σ j))), (8, .ref (ra (4 + j))), (7, .int (nI j)), (4, .long r), (6, .int (nI (4 * sN))), (0, .ref (ra 0)), (1, .int (nI sN)), (2, .int mo)]) hx hb dX4_top_124 rfl hl (by decide) rfl (fun ls hl => ?_)
          refine lv_lload hx hb dX4_top_125 (lv_at hl 2 rfl) ?_
          refine lv_lstore (lv' := [(4, .long (so_rank (j / 4) (zNow σ j))), (3, .int (nI j)), (11, .int (sX4_top_j1 σ mo j b r)), (9, .long (so_rank (j / 4) (zNow σ j))), (8, .ref (ra (4 + j))), (7, .int (nI j)), (6, .int (nI (4 * sN))), (0, .ref (ra 0)), (1, .int (nI sN)), (2, .int mo)]) hx hb dX4_top_127 hl (by decide) rfl (fun ls hl => ?_)
          simp only [sX4_top_j2, sX4_top_j3, if_neg h1, if_pos h5] at K1
          exact K1 ls (lv_sub hl [4, 5, 1, 0, 6, 7, 8, 9] rfl)
        · skip
          refine lv_iload hx hb dX4_top_117 (lv_at hl 0 rfl) ?_
          refine c_if_eq (tgt := 129) hx hb dX4_top_119 (by decide) (fun h6 => ?_) (fun h6 => ?_)
          · skip
            simp only [sX4_top_j2, sX4_top_j3, if_neg h1, if_neg h5, if_pos h6] at K1
            exact K1 ls (lv_sub hl [2, 3, 4, 5, 6, 7, 8, 9] rfl)
          · skip
            refine lv_iload hx hb dX4_top_122 (lv_at hl 3 rfl) ?_
            refine lv_istore_n (lv' := [(3, .int (nI j)), (11, .int (sX4_top_j1 σ mo j b r)), (9, .long (so_rank (j / 4) (zNow σ j))), (8, .ref (ra (4 + j))), (7, .int (nI j)), (4, .long r), (6, .int (nI (4 * sN))), (0, .ref (ra 0)), (1, .int (nI sN)), (2, .int mo)]) hx hb dX4_top_124 rfl hl (by decide) rfl (fun ls hl => ?_)
            refine lv_lload hx hb dX4_top_125 (lv_at hl 2 rfl) ?_
            refine lv_lstore (lv' := [(4, .long (so_rank (j / 4) (zNow σ j))), (3, .int (nI j)), (11, .int (sX4_top_j1 σ mo j b r)), (9, .long (so_rank (j / 4) (zNow σ j))), (8, .ref (ra (4 + j))), (7, .int (nI j)), (6, .int (nI (4 * sN))), (0, .ref (ra 0)), (1, .int (nI sN)), (2, .int mo)]) hx hb dX4_top_127 hl (by decide) rfl (fun ls hl => ?_)
            simp only [sX4_top_j2, sX4_top_j3, if_neg h1, if_neg h5, if_neg h6] at K1
            exact K1 ls (lv_sub hl [4, 5, 1, 0, 6, 7, 8, 9] rfl)
      · skip
        refine lv_goto (tgt := 129) hx hb dX4_top_59 (by decide) ?_
        simp only [sX4_top_j2, sX4_top_j3, if_pos h1] at K1
        exact K1 ls (lv_sub hl [0, 1, 2, 3, 4, 5, 6, 7] rfl)
    refine lv_iinc (v := ((nI j) + 1)) (lv' := [(7, .int ((nI j) + 1)), (8, .ref (ra (4 + j))), (3, .int (sX4_top_j2 σ mo j b r)), (4, .long (sX4_top_j3 σ mo j b r)), (6, .int (nI (4 * sN))), (0, .ref (ra 0)), (1, .int (nI sN)), (2, .int mo)]) hx hb dX4_top_129 hl (k := 1) rfl (by first | rfl | decide) (by decide) rfl (fun ls hl => ?_)
    rw [eK] at hl
    refine lv_goto (tgt := 33) hx hb dX4_top_132 (by decide) ?_
    exact ih k ((sX4_top_j2 σ mo j b r), (sX4_top_j3 σ mo j b r)) ls (by omega) ⟨by omega, hI⟩ (lv_sub hl [0, 2, 3, 4, 5, 6, 7] rfl)
set_option maxHeartbeats 4000000 in
set_option maxRecDepth 100000 in
theorem x_X4_topA (l : Launch) (D : va_G) (A : Nat → Prop) (cI cB : ClassId) (ra : Nat → Nat) (σ : St) (fr : va_W) (a : Int32) (mo : Int32) (hst : l.stackTraces = false) (h1 : a < 0) : XM l yX4_top cX4_top 12 (some .int) 6 [.ref (ra 0), .int a, .int mo] (rPre D A cI cB (RW cI cB ra σ fr)) xIA D A (RW cI cB ra σ fr) := by
  refine vx_ofW (cc := cX4_top) (maxL := 12) (ret := (some .int)) (by decide) rfl ?_
  intro p e s m args below meth c s₁ B hml htb hv
  obtain ⟨rfl, hP, hK, hD, hA, hN, hT⟩ := hv
  have hx := B.exec
  have hb := B.bytes
  have hr := B.returns
  have hts : ∀ w ∈ AW, w.before _ s = true := fun w h => atoms_spec (ws := Cond.code yX4_top cX4_top 12 (some .int) :: AW) B.pre w (List.mem_cons_of_mem _ h)
  have hown : s.vm.findClass RX4 = some m.cls := findClass_of_methodNamed B.named
  have hlocks := B.notSynchronized
  have hS : va_S A s.heap s.heap [] := va_S.rf
  have hK0 := hK.sub (tys' := []) [] rfl
  have hl := lv_entry ([.ref (ra 0), .int a, .int mo]) (n := 12) (Nat.le_of_ble_eq_true rfl)
  rw [lg_entry_eq]
  generalize (lg_sl ([.ref (ra 0), .int a, .int mo]) ++ List.replicate (12 - (lg_sl ([.ref (ra 0), .int a, .int mo])).length) Slot.unset).toArray = ls at hl ⊢
  have hl : lv_has ls 12 [(0, .ref (ra 0)), (1, .int a), (2, .int mo)] := hl
  have kn0 : a < 0 := h1
  refine lv_iload_n hx hb dX4_top_0 rfl (lv_at hl 1 rfl) ?_
  refine c_if_lt (tgt := 9) hx hb dX4_top_1 (by decide) (fun _ => ?_) (fun hq => absurd kn0 hq)
  exact x_throw (cls := xIA) (text := "no such sort") hx hb hst hml hown hts hT htb hP hS fitIA q163 q30 (by decide) (at_IA hts hT) gdIA hl.1 dX4_top_9 dX4_top_12 dX4_top_13 dX4_top_15 dX4_top_18 ⟨Nat.le_of_ble_eq_true rfl, Nat.le_of_ble_eq_true rfl⟩ ⟨Nat.le_of_ble_eq_true rfl, Nat.le_of_ble_eq_true rfl⟩ hlocks
set_option maxHeartbeats 4000000 in
set_option maxRecDepth 100000 in
theorem x_X4_topB (l : Launch) (D : va_G) (A : Nat → Prop) (cI cB : ClassId) (ra : Nat → Nat) (σ : St) (fr : va_W) (a : Int32) (mo : Int32) (hst : l.stackTraces = false) (h1 : ¬ a < 0) (h2 : ¬ a < (4 : Int32)) : XM l yX4_top cX4_top 12 (some .int) 6 [.ref (ra 0), .int a, .int mo] (rPre D A cI cB (RW cI cB ra σ fr)) xIA D A (RW cI cB ra σ fr) := by
  refine vx_ofW (cc := cX4_top) (maxL := 12) (ret := (some .int)) (by decide) rfl ?_
  intro p e s m args below meth c s₁ B hml htb hv
  obtain ⟨rfl, hP, hK, hD, hA, hN, hT⟩ := hv
  have hx := B.exec
  have hb := B.bytes
  have hr := B.returns
  have hts : ∀ w ∈ AW, w.before _ s = true := fun w h => atoms_spec (ws := Cond.code yX4_top cX4_top 12 (some .int) :: AW) B.pre w (List.mem_cons_of_mem _ h)
  have hown : s.vm.findClass RX4 = some m.cls := findClass_of_methodNamed B.named
  have hlocks := B.notSynchronized
  have hS : va_S A s.heap s.heap [] := va_S.rf
  have hK0 := hK.sub (tys' := []) [] rfl
  have hl := lv_entry ([.ref (ra 0), .int a, .int mo]) (n := 12) (Nat.le_of_ble_eq_true rfl)
  rw [lg_entry_eq]
  generalize (lg_sl ([.ref (ra 0), .int a, .int mo]) ++ List.replicate (12 - (lg_sl ([.ref (ra 0), .int a, .int mo])).length) Slot.unset).toArray = ls at hl ⊢
  have hl : lv_has ls 12 [(0, .ref (ra 0)), (1, .int a), (2, .int mo)] := hl
  have kn0 : ¬ a < 0 := h1
  have kn1 : ¬ a < (4 : Int32) := h2
  refine lv_iload_n hx hb dX4_top_0 rfl (lv_at hl 1 rfl) ?_
  refine c_if_lt (tgt := 9) hx hb dX4_top_1 (by decide) (fun hq => absurd hq kn0) (fun _ => ?_)
  refine lv_iload_n hx hb dX4_top_4 rfl (lv_at hl 1 rfl) ?_
  refine lv_iconst (v := 4) hx hb dX4_top_5 (by decide) ?_
  refine c_icmp_lt (tgt := 19) hx hb dX4_top_6 (by decide) (fun hq => absurd hq kn1) (fun _ => ?_)
  exact x_throw (cls := xIA) (text := "no such sort") hx hb hst hml hown hts hT htb hP hS fitIA q163 q30 (by decide) (at_IA hts hT) gdIA hl.1 dX4_top_9 dX4_top_12 dX4_top_13 dX4_top_15 dX4_top_18 ⟨Nat.le_of_ble_eq_true rfl, Nat.le_of_ble_eq_true rfl⟩ ⟨Nat.le_of_ble_eq_true rfl, Nat.le_of_ble_eq_true rfl⟩ hlocks
def sX4_show (σ : St) (n : Nat) (g : Int32) : Int64 := (cLoop (zSetRfs σ (-1 : Int32)) g (g.toNatClampNeg / 4) n 0 (zNow σ g.toNatClampNeg)).1
def tsX4_show (σ : St) (n : Nat) (g : Int32) : St := (zSetRfs σ (-1 : Int32))
theorem nX4_show : yX4_show.cls ≠ "java/lang/invoke/MethodHandle" ∧ yX4_show.cls ≠ "java/lang/invoke/VarHandle" ∧ (parseMethodDescriptor yX4_show.desc).map (fun d => d.parameters.length) = some 1 := by decide +kernel
set_option maxHeartbeats 4000000 in
set_option maxRecDepth 100000 in
theorem m_X4_show (l : Launch) (D : va_G) (A : Nat → Prop) (cI cB : ClassId) (ra : Nat → Nat) (σ : St) (fr : va_W) (n : Nat) (g : Int32) (hg : vp_in g 16) (hc : ¬ zCnt σ g.toNatClampNeg = 0) (ht0 : tapeOK σ n) (hR : (cLoop (zSetRfs σ (-1 : Int32)) g (g.toNatClampNeg / 4) n 0 (zNow σ g.toNatClampNeg)).2.1 = 0) : IM l yX4_show cX4_show 2 (some .long) 8 [.ref (ra 0), .int g] (rPre D A cI cB (RW cI cB ra σ fr)) D A (some (.long (sX4_show σ n g))) (RW cI cB ra (tsX4_show σ n g) fr) := by
  refine Met.ofW (cc := cX4_show) (maxL := 2) (ret := (some .long)) (by decide) rfl ?_
  intro p e s m args below meth c s₁ B hml hv
  obtain ⟨rfl, hP, hK, hD, hA, hN, hT⟩ := hv
  have hx := B.exec
  have hb := B.bytes
  have hr := B.returns
  have hts : ∀ w ∈ AW, w.before _ s = true := fun w h => atoms_spec (ws := Cond.code yX4_show cX4_show 2 (some .long) :: AW) B.pre w (List.mem_cons_of_mem _ h)
  have hown : s.vm.findClass RX4 = some m.cls := findClass_of_methodNamed B.named
  have hlocks := B.notSynchronized
  have hS : va_S A s.heap s.heap [] := va_S.rf
  have hK0 := hK.sub (tys' := []) [] rfl
  have hl := lv_entry ([.ref (ra 0), .int g]) (n := 2) (Nat.le_of_ble_eq_true rfl)
  rw [lg_entry_eq]
  generalize (lg_sl ([.ref (ra 0), .int g]) ++ List.replicate (2 - (lg_sl ([.ref (ra 0), .int g])).length) Slot.unset).toArray = ls at hl ⊢
  have hl : lv_has ls 2 [(0, .ref (ra 0)), (1, .int g)] := hl
  refine lv_aload_n hx hb dX4_show_0 rfl (lv_at hl 0 rfl) ?_
  refine lv_iload_n hx hb dX4_show_1 rfl (lv_at hl 1 rfl) ?_
  refine i_V (C := RX4) (rest := []) hx hb hml hown hts (m_X4_tapeDoneOn l D A cI cB ra σ fr g n hg hc ht0 hR) q401 q403 q8 q21 q404 rfl nX4_tapeDoneOn ⟨Nat.le_of_ble_eq_true rfl, Nat.le_of_ble_eq_true rfl⟩ hl.1 rfl rfl (Nat.le_of_ble_eq_true rfl) dX4_show_2 ⟨Nat.zero_le _, Nat.zero_le _⟩ rPre_bl (va_recv hK hP (ci := 4) (q0 := 0) rfl rfl) (rPre_go hP hK hD hA hN hT hS) hS (fun H locs hP hS => ?_)
  have hD := rw_D (σ' := (zSetRfs σ (-1 : Int32))) hD
  have hP : va_P D vwCl (RW cI cB ra (zSetRfs σ (-1 : Int32)) fr) H := hP
  have hD : va_D A (RW cI cB ra (zSetRfs σ (-1 : Int32)) fr) := hD
  exact W.lret hx hb hr (fun t ht hW => ⟨rfl, (by rw [ht]; exact hP), hS.F ht⟩) hS.2.2 dX4_show_5
set_option maxHeartbeats 4000000 in
set_option maxRecDepth 100000 in
theorem x_X4_showIS (l : Launch) (D : va_G) (A : Nat → Prop) (cI cB : ClassId) (ra : Nat → Nat) (σ : St) (fr : va_W) (n : Nat) (g : Int32) (hst : l.stackTraces = false) (hg : vp_in g 16) (hc : ¬ zCnt σ g.toNatClampNeg = 0) (ht0 : tapeOK σ n) (hR : (cLoop (zSetRfs σ (-1 : Int32)) g (g.toNatClampNeg / 4) n 0 (zNow σ g.toNatClampNeg)).2.1 = 2) : XM l yX4_show cX4_show 2 (some .long) 8 [.ref (ra 0), .int g] (rPre D A cI cB (RW cI cB ra σ fr)) xIS D A (RW cI cB ra (zSetRfs (zSetRfs σ (-1 : Int32)) (cLoop (zSetRfs σ (-1 : Int32)) g (g.toNatClampNeg / 4) n 0 (zNow σ g.toNatClampNeg)).2.2) fr) := by
  refine vx_ofW (cc := cX4_show) (maxL := 2) (ret := (some .long)) (by decide) rfl ?_
  intro p e s m args below meth c s₁ B hml htb hv
  obtain ⟨rfl, hP, hK, hD, hA, hN, hT⟩ := hv
  have hx := B.exec
  have hb := B.bytes
  have hr := B.returns
  have hts : ∀ w ∈ AW, w.before _ s = true := fun w h => atoms_spec (ws := Cond.code yX4_show cX4_show 2 (some .long) :: AW) B.pre w (List.mem_cons_of_mem _ h)
  have hown : s.vm.findClass RX4 = some m.cls := findClass_of_methodNamed B.named
  have hlocks := B.notSynchronized
  have hS : va_S A s.heap s.heap [] := va_S.rf
  have hK0 := hK.sub (tys' := []) [] rfl
  have hl := lv_entry ([.ref (ra 0), .int g]) (n := 2) (Nat.le_of_ble_eq_true rfl)
  rw [lg_entry_eq]
  generalize (lg_sl ([.ref (ra 0), .int g]) ++ List.replicate (2 - (lg_sl ([.ref (ra 0), .int g])).length) Slot.unset).toArray = ls at hl ⊢
  have hl : lv_has ls 2 [(0, .ref (ra 0)), (1, .int g)] := hl
  refine lv_aload_n hx hb dX4_show_0 rfl (lv_at hl 0 rfl) ?_
  refine lv_iload_n hx hb dX4_show_1 rfl (lv_at hl 1 rfl) ?_
  exact x_out (C := RX4) (rest := []) hx hb hml hown hts htb (x_X4_tapeDoneOnIS l D A cI cB ra σ fr g n hst hg hc ht0 hR) q401 q403 q8 q21 q404 rfl nX4_tapeDoneOn ⟨Nat.le_of_ble_eq_true rfl, Nat.le_of_ble_eq_true rfl⟩ hl.1 rfl rfl (Nat.le_of_ble_eq_true rfl) dX4_show_2 ⟨Nat.le_of_ble_eq_true rfl, Nat.le_of_ble_eq_true rfl⟩ rPre_bl (va_recv hK hP (ci := 4) (q0 := 0) rfl rfl) (rPre_go hP hK hD hA hN hT hS) hS hlocks
set_option maxHeartbeats 4000000 in
set_option maxRecDepth 100000 in
theorem x_X4_showAR (l : Launch) (D : va_G) (A : Nat → Prop) (cI cB : ClassId) (ra : Nat → Nat) (σ : St) (fr : va_W) (n : Nat) (g : Int32) (hst : l.stackTraces = false) (hg : vp_in g 16) (hc : ¬ zCnt σ g.toNatClampNeg = 0) (ht0 : tapeOK σ n) (hR : (cLoop (zSetRfs σ (-1 : Int32)) g (g.toNatClampNeg / 4) n 0 (zNow σ g.toNatClampNeg)).2.1 = 3) : XM l yX4_show cX4_show 2 (some .long) 8 [.ref (ra 0), .int g] (rPre D A cI cB (RW cI cB ra σ fr)) xAR D A (RW cI cB ra (zSetRfs (zSetRfs σ (-1 : Int32)) (cLoop (zSetRfs σ (-1 : Int32)) g (g.toNatClampNeg / 4) n 0 (zNow σ g.toNatClampNeg)).2.2) fr) := by
  refine vx_ofW (cc := cX4_show) (maxL := 2) (ret := (some .long)) (by decide) rfl ?_
  intro p e s m args below meth c s₁ B hml htb hv
  obtain ⟨rfl, hP, hK, hD, hA, hN, hT⟩ := hv
  have hx := B.exec
  have hb := B.bytes
  have hr := B.returns
  have hts : ∀ w ∈ AW, w.before _ s = true := fun w h => atoms_spec (ws := Cond.code yX4_show cX4_show 2 (some .long) :: AW) B.pre w (List.mem_cons_of_mem _ h)
  have hown : s.vm.findClass RX4 = some m.cls := findClass_of_methodNamed B.named
  have hlocks := B.notSynchronized
  have hS : va_S A s.heap s.heap [] := va_S.rf
  have hK0 := hK.sub (tys' := []) [] rfl
  have hl := lv_entry ([.ref (ra 0), .int g]) (n := 2) (Nat.le_of_ble_eq_true rfl)
  rw [lg_entry_eq]
  generalize (lg_sl ([.ref (ra 0), .int g]) ++ List.replicate (2 - (lg_sl ([.ref (ra 0), .int g])).length) Slot.unset).toArray = ls at hl ⊢
  have hl : lv_has ls 2 [(0, .ref (ra 0)), (1, .int g)] := hl
  refine lv_aload_n hx hb dX4_show_0 rfl (lv_at hl 0 rfl) ?_
  refine lv_iload_n hx hb dX4_show_1 rfl (lv_at hl 1 rfl) ?_
  exact x_out (C := RX4) (rest := []) hx hb hml hown hts htb (x_X4_tapeDoneOnAR l D A cI cB ra σ fr g n hst hg hc ht0 hR) q401 q403 q8 q21 q404 rfl nX4_tapeDoneOn ⟨Nat.le_of_ble_eq_true rfl, Nat.le_of_ble_eq_true rfl⟩ hl.1 rfl rfl (Nat.le_of_ble_eq_true rfl) dX4_show_2 ⟨Nat.le_of_ble_eq_true rfl, Nat.le_of_ble_eq_true rfl⟩ rPre_bl (va_recv hK hP (ci := 4) (q0 := 0) rfl rfl) (rPre_go hP hK hD hA hN hT hS) hS hlocks
set_option maxHeartbeats 4000000 in
set_option maxRecDepth 100000 in
theorem x_X4_showN (l : Launch) (D : va_G) (A : Nat → Prop) (cI cB : ClassId) (ra : Nat → Nat) (σ : St) (fr : va_W) (g : Int32) (hst : l.stackTraces = false) (hg : ¬ vp_in g 16) : XM l yX4_show cX4_show 2 (some .long) 8 [.ref (ra 0), .int g] (rPre D A cI cB (RW cI cB ra σ fr)) xIA D A (RW cI cB ra ((zCnt σ), (zNow σ), (zLst σ), (zGst σ), (zSwg σ), (zTrd σ), (zCds σ), (zOps σ), (zOrd σ), (-1 : Int32)) fr) := by
  refine vx_ofW (cc := cX4_show) (maxL := 2) (ret := (some .long)) (by decide) rfl ?_
  intro p e s m args below meth c s₁ B hml htb hv
  obtain ⟨rfl, hP, hK, hD, hA, hN, hT⟩ := hv
  have hx := B.exec
  have hb := B.bytes
  have hr := B.returns
  have hts : ∀ w ∈ AW, w.before _ s = true := fun w h => atoms_spec (ws := Cond.code yX4_show cX4_show 2 (some .long) :: AW) B.pre w (List.mem_cons_of_mem _ h)
  have hown : s.vm.findClass RX4 = some m.cls := findClass_of_methodNamed B.named
  have hlocks := B.notSynchronized
  have hS : va_S A s.heap s.heap [] := va_S.rf
  have hK0 := hK.sub (tys' := []) [] rfl
  have hl := lv_entry ([.ref (ra 0), .int g]) (n := 2) (Nat.le_of_ble_eq_true rfl)
  rw [lg_entry_eq]
  generalize (lg_sl ([.ref (ra 0), .int g]) ++ List.replicate (2 - (lg_sl ([.ref (ra 0), .int g])).length) Slot.unset).toArray = ls at hl ⊢
  have hl : lv_has ls 2 [(0, .ref (ra 0)), (1, .int g)] := hl
  refine lv_aload_n hx hb dX4_show_0 rfl (lv_at hl 0 rfl) ?_
  refine lv_iload_n hx hb dX4_show_1 rfl (lv_at hl 1 rfl) ?_
  exact x_out (C := RX4) (rest := []) hx hb hml hown hts htb (x_X4_tapeDoneOnN l D A cI cB ra σ fr g hst hg) q401 q403 q8 q21 q404 rfl nX4_tapeDoneOn ⟨Nat.le_of_ble_eq_true rfl, Nat.le_of_ble_eq_true rfl⟩ hl.1 rfl rfl (Nat.le_of_ble_eq_true rfl) dX4_show_2 ⟨Nat.le_of_ble_eq_true rfl, Nat.le_of_ble_eq_true rfl⟩ rPre_bl (va_recv hK hP (ci := 4) (q0 := 0) rfl rfl) (rPre_go hP hK hD hA hN hT hS) hS hlocks
set_option maxHeartbeats 4000000 in
set_option maxRecDepth 100000 in
theorem x_X4_showC (l : Launch) (D : va_G) (A : Nat → Prop) (cI cB : ClassId) (ra : Nat → Nat) (σ : St) (fr : va_W) (g : Int32) (hst : l.stackTraces = false) (hg : vp_in g 16) (hc : zCnt σ g.toNatClampNeg = 0) : XM l yX4_show cX4_show 2 (some .long) 8 [.ref (ra 0), .int g] (rPre D A cI cB (RW cI cB ra σ fr)) xIS D A (RW cI cB ra ((zCnt σ), (zNow σ), (zLst σ), (zGst σ), (zSwg σ), (zTrd σ), (zCds σ), (zOps σ), (zOrd σ), (-1 : Int32)) fr) := by
  refine vx_ofW (cc := cX4_show) (maxL := 2) (ret := (some .long)) (by decide) rfl ?_
  intro p e s m args below meth c s₁ B hml htb hv
  obtain ⟨rfl, hP, hK, hD, hA, hN, hT⟩ := hv
  have hx := B.exec
  have hb := B.bytes
  have hr := B.returns
  have hts : ∀ w ∈ AW, w.before _ s = true := fun w h => atoms_spec (ws := Cond.code yX4_show cX4_show 2 (some .long) :: AW) B.pre w (List.mem_cons_of_mem _ h)
  have hown : s.vm.findClass RX4 = some m.cls := findClass_of_methodNamed B.named
  have hlocks := B.notSynchronized
  have hS : va_S A s.heap s.heap [] := va_S.rf
  have hK0 := hK.sub (tys' := []) [] rfl
  have hl := lv_entry ([.ref (ra 0), .int g]) (n := 2) (Nat.le_of_ble_eq_true rfl)
  rw [lg_entry_eq]
  generalize (lg_sl ([.ref (ra 0), .int g]) ++ List.replicate (2 - (lg_sl ([.ref (ra 0), .int g])).length) Slot.unset).toArray = ls at hl ⊢
  have hl : lv_has ls 2 [(0, .ref (ra 0)), (1, .int g)] := hl
  refine lv_aload_n hx hb dX4_show_0 rfl (lv_at hl 0 rfl) ?_
  refine lv_iload_n hx hb dX4_show_1 rfl (lv_at hl 1 rfl) ?_
  exact x_out (C := RX4) (rest := []) hx hb hml hown hts htb (x_X4_tapeDoneOnC l D A cI cB ra σ fr g hst hg hc) q401 q403 q8 q21 q404 rfl nX4_tapeDoneOn ⟨Nat.le_of_ble_eq_true rfl, Nat.le_of_ble_eq_true rfl⟩ hl.1 rfl rfl (Nat.le_of_ble_eq_true rfl) dX4_show_2 ⟨Nat.le_of_ble_eq_true rfl, Nat.le_of_ble_eq_true rfl⟩ rPre_bl (va_recv hK hP (ci := 4) (q0 := 0) rfl rfl) (rPre_go hP hK hD hA hN hT hS) hS hlocks
def sX4_keep (σ : St) (n : Nat) (g : Int32) : Int32 := (sX0_take (g.toNatClampNeg / 4) (zCnt (zSetRfs σ (-1 : Int32)) g.toNatClampNeg) (zNow (zSetRfs σ (-1 : Int32)) g.toNatClampNeg) (zLst (zSetRfs σ (-1 : Int32)) g.toNatClampNeg) (zGst (zSetRfs σ (-1 : Int32)) g.toNatClampNeg) (zSwg (zSetRfs σ (-1 : Int32)) g.toNatClampNeg) (zTrd (zSetRfs σ (-1 : Int32)) g.toNatClampNeg) ((cLoop (zSetRfs σ (-1 : Int32)) g (g.toNatClampNeg / 4) n 0 (zNow σ g.toNatClampNeg)).1))
def tsX4_keep (σ : St) (n : Nat) (g : Int32) : St := (zBal (zSetRfs σ (-1 : Int32)) g.toNatClampNeg (rX0_take_c (g.toNatClampNeg / 4) (zCnt (zSetRfs σ (-1 : Int32)) g.toNatClampNeg) (zNow (zSetRfs σ (-1 : Int32)) g.toNatClampNeg) (zLst (zSetRfs σ (-1 : Int32)) g.toNatClampNeg) (zGst (zSetRfs σ (-1 : Int32)) g.toNatClampNeg) (zSwg (zSetRfs σ (-1 : Int32)) g.toNatClampNeg) (zTrd (zSetRfs σ (-1 : Int32)) g.toNatClampNeg) ((cLoop (zSetRfs σ (-1 : Int32)) g (g.toNatClampNeg / 4) n 0 (zNow σ g.toNatClampNeg)).1)) (rX0_take_n (g.toNatClampNeg / 4) (zCnt (zSetRfs σ (-1 : Int32)) g.toNatClampNeg) (zNow (zSetRfs σ (-1 : Int32)) g.toNatClampNeg) (zLst (zSetRfs σ (-1 : Int32)) g.toNatClampNeg) (zGst (zSetRfs σ (-1 : Int32)) g.toNatClampNeg) (zSwg (zSetRfs σ (-1 : Int32)) g.toNatClampNeg) (zTrd (zSetRfs σ (-1 : Int32)) g.toNatClampNeg) ((cLoop (zSetRfs σ (-1 : Int32)) g (g.toNatClampNeg / 4) n 0 (zNow σ g.toNatClampNeg)).1)) (rX0_take_l (g.toNatClampNeg / 4) (zCnt (zSetRfs σ (-1 : Int32)) g.toNatClampNeg) (zNow (zSetRfs σ (-1 : Int32)) g.toNatClampNeg) (zLst (zSetRfs σ (-1 : Int32)) g.toNatClampNeg) (zGst (zSetRfs σ (-1 : Int32)) g.toNatClampNeg) (zSwg (zSetRfs σ (-1 : Int32)) g.toNatClampNeg) (zTrd (zSetRfs σ (-1 : Int32)) g.toNatClampNeg) ((cLoop (zSetRfs σ (-1 : Int32)) g (g.toNatClampNeg / 4) n 0 (zNow σ g.toNatClampNeg)).1)) (rX0_take_h (g.toNatClampNeg / 4) (zCnt (zSetRfs σ (-1 : Int32)) g.toNatClampNeg) (zNow (zSetRfs σ (-1 : Int32)) g.toNatClampNeg) (zLst (zSetRfs σ (-1 : Int32)) g.toNatClampNeg) (zGst (zSetRfs σ (-1 : Int32)) g.toNatClampNeg) (zSwg (zSetRfs σ (-1 : Int32)) g.toNatClampNeg) (zTrd (zSetRfs σ (-1 : Int32)) g.toNatClampNeg) ((cLoop (zSetRfs σ (-1 : Int32)) g (g.toNatClampNeg / 4) n 0 (zNow σ g.toNatClampNeg)).1)) (rX0_take_w (g.toNatClampNeg / 4) (zCnt (zSetRfs σ (-1 : Int32)) g.toNatClampNeg) (zNow (zSetRfs σ (-1 : Int32)) g.toNatClampNeg) (zLst (zSetRfs σ (-1 : Int32)) g.toNatClampNeg) (zGst (zSetRfs σ (-1 : Int32)) g.toNatClampNeg) (zSwg (zSetRfs σ (-1 : Int32)) g.toNatClampNeg) (zTrd (zSetRfs σ (-1 : Int32)) g.toNatClampNeg) ((cLoop (zSetRfs σ (-1 : Int32)) g (g.toNatClampNeg / 4) n 0 (zNow σ g.toNatClampNeg)).1)) (rX0_take_t (g.toNatClampNeg / 4) (zCnt (zSetRfs σ (-1 : Int32)) g.toNatClampNeg) (zNow (zSetRfs σ (-1 : Int32)) g.toNatClampNeg) (zLst (zSetRfs σ (-1 : Int32)) g.toNatClampNeg) (zGst (zSetRfs σ (-1 : Int32)) g.toNatClampNeg) (zSwg (zSetRfs σ (-1 : Int32)) g.toNatClampNeg) (zTrd (zSetRfs σ (-1 : Int32)) g.toNatClampNeg) ((cLoop (zSetRfs σ (-1 : Int32)) g (g.toNatClampNeg / 4) n 0 (zNow σ g.toNatClampNeg)).1)))
theorem nX4_keep : yX4_keep.cls ≠ "java/lang/invoke/MethodHandle" ∧ yX4_keep.cls ≠ "java/lang/invoke/VarHandle" ∧ (parseMethodDescriptor yX4_keep.desc).map (fun d => d.parameters.length) = some 1 := by decide +kernel
set_option maxHeartbeats 4000000 in
set_option maxRecDepth 100000 in
theorem m_X4_keep (l : Launch) (D : va_G) (A : Nat → Prop) (cI cB : ClassId) (ra : Nat → Nat) (σ : St) (fr : va_W) (n : Nat) (g : Int32) (hg : vp_in g 16) (hc : ¬ zCnt σ g.toNatClampNeg = 0) (ht0 : tapeOK σ n) (hR : (cLoop (zSetRfs σ (-1 : Int32)) g (g.toNatClampNeg / 4) n 0 (zNow σ g.toNatClampNeg)).2.1 = 0) : IM l yX4_keep cX4_keep 4 (some .int) 8 [.ref (ra 0), .int g] (rPre D A cI cB (RW cI cB ra σ fr)) D A (some (.int (sX4_keep σ n g))) (RW cI cB ra (tsX4_keep σ n g) fr) := by
  refine Met.ofW (cc := cX4_keep) (maxL := 4) (ret := (some .int)) (by decide) rfl ?_
  intro p e s m args below meth c s₁ B hml hv
  obtain ⟨rfl, hP, hK, hD, hA, hN, hT⟩ := hv
  have hx := B.exec
  have hb := B.bytes
  have hr := B.returns
  have hts : ∀ w ∈ AW, w.before _ s = true := fun w h => atoms_spec (ws := Cond.code yX4_keep cX4_keep 4 (some .int) :: AW) B.pre w (List.mem_cons_of_mem _ h)
  have hown : s.vm.findClass RX4 = some m.cls := findClass_of_methodNamed B.named
  have hlocks := B.notSynchronized
  have hS : va_S A s.heap s.heap [] := va_S.rf
  have hK0 := hK.sub (tys' := []) [] rfl
  have hl := lv_entry ([.ref (ra 0), .int g]) (n := 4) (Nat.le_of_ble_eq_true rfl)
  rw [lg_entry_eq]
  generalize (lg_sl ([.ref (ra 0), .int g]) ++ List.replicate (4 - (lg_sl ([.ref (ra 0), .int g])).length) Slot.unset).toArray = ls at hl ⊢
  have hl : lv_has ls 4 [(0, .ref (ra 0)), (1, .int g)] := hl
  refine lv_aload_n hx hb dX4_keep_0 rfl (lv_at hl 0 rfl) ?_
  refine lv_iload_n hx hb dX4_keep_1 rfl (lv_at hl 1 rfl) ?_
  refine i_V (C := RX4) (rest := []) hx hb hml hown hts (m_X4_tapeDoneOn l D A cI cB ra σ fr g n hg hc ht0 hR) q401 q403 q8 q21 q404 rfl nX4_tapeDoneOn ⟨Nat.le_of_ble_eq_true rfl, Nat.le_of_ble_eq_true rfl⟩ hl.1 rfl rfl (Nat.le_of_ble_eq_true rfl) dX4_keep_2 ⟨Nat.zero_le _, Nat.zero_le _⟩ rPre_bl (va_recv hK hP (ci := 4) (q0 := 0) rfl rfl) (rPre_go hP hK hD hA hN hT hS) hS (fun H locs hP hS => ?_)
  have hD := rw_D (σ' := (zSetRfs σ (-1 : Int32))) hD
  have hP : va_P D vwCl (RW cI cB ra (zSetRfs σ (-1 : Int32)) fr) H := hP
  have hD : va_D A (RW cI cB ra (zSetRfs σ (-1 : Int32)) fr) := hD
  refine lv_lstore_n (lv' := [(2, .long (cLoop (zSetRfs σ (-1 : Int32)) g (g.toNatClampNeg / 4) n 0 (zNow σ g.toNatClampNeg)).1), (0, .ref (ra 0)), (1, .int g)]) hx hb dX4_keep_5 rfl hl (by decide) rfl (fun ls hl => ?_)
  refine lv_aload_n hx hb dX4_keep_6 rfl (lv_at hl 1 rfl) ?_
  refine lv_iload_n hx hb dX4_keep_7 rfl (lv_at hl 2 rfl) ?_
  refine p_V (C := RX4) (rest := []) hx hb hml hown hts (m_X4_balanceAt l D A cI cB ra (zSetRfs σ (-1 : Int32)) fr g hg) q159 q161 q0 q21 q162 rfl nX4_balanceAt ⟨Nat.le_of_ble_eq_true rfl, Nat.le_of_ble_eq_true rfl⟩ hl.1 rfl rfl (Nat.le_of_ble_eq_true rfl) dX4_keep_8 ⟨Nat.zero_le _, Nat.zero_le _⟩ rPre_bl (va_recv hK hP (ci := 4) (q0 := 0) rfl rfl) (rPre_go hP hK hD hA hN hT hS) ?_
  refine lv_lload_n hx hb dX4_keep_11 rfl (lv_at hl 0 rfl) ?_
  refine r_bal (g := g.toNatClampNeg) (rest := []) hx hb hml hown hts (m_X0_take l D _ _ (g.toNatClampNeg / 4) (zCnt (zSetRfs σ (-1 : Int32)) g.toNatClampNeg) (zNow (zSetRfs σ (-1 : Int32)) g.toNatClampNeg) (zLst (zSetRfs σ (-1 : Int32)) g.toNatClampNeg) (zGst (zSetRfs σ (-1 : Int32)) g.toNatClampNeg) (zSwg (zSetRfs σ (-1 : Int32)) g.toNatClampNeg) (zTrd (zSetRfs σ (-1 : Int32)) g.toNatClampNeg) ((cLoop (zSetRfs σ (-1 : Int32)) g (g.toNatClampNeg / 4) n 0 (zNow σ g.toNatClampNeg)).1)) q251 q252 q253 q25 q254 rfl nX0_take ⟨Nat.le_of_ble_eq_true rfl, Nat.le_of_ble_eq_true rfl⟩ hl.1 rfl rfl (Nat.le_of_ble_eq_true rfl) dX4_keep_12 ⟨Nat.zero_le _, Nat.zero_le _⟩ (vp_lt hg) hP hK hD hA hS (fun H locs hP hD hS => ?_)
  exact W.iret hx hb hr (fun t ht hW => ⟨rfl, (by rw [ht]; exact hP), hS.F ht⟩) hS.2.2 dX4_keep_15
set_option maxHeartbeats 4000000 in
set_option maxRecDepth 100000 in
theorem x_X4_keepIS (l : Launch) (D : va_G) (A : Nat → Prop) (cI cB : ClassId) (ra : Nat → Nat) (σ : St) (fr : va_W) (n : Nat) (g : Int32) (hst : l.stackTraces = false) (hg : vp_in g 16) (hc : ¬ zCnt σ g.toNatClampNeg = 0) (ht0 : tapeOK σ n) (hR : (cLoop (zSetRfs σ (-1 : Int32)) g (g.toNatClampNeg / 4) n 0 (zNow σ g.toNatClampNeg)).2.1 = 2) : XM l yX4_keep cX4_keep 4 (some .int) 8 [.ref (ra 0), .int g] (rPre D A cI cB (RW cI cB ra σ fr)) xIS D A (RW cI cB ra (zSetRfs (zSetRfs σ (-1 : Int32)) (cLoop (zSetRfs σ (-1 : Int32)) g (g.toNatClampNeg / 4) n 0 (zNow σ g.toNatClampNeg)).2.2) fr) := by
  refine vx_ofW (cc := cX4_keep) (maxL := 4) (ret := (some .int)) (by decide) rfl ?_
  intro p e s m args below meth c s₁ B hml htb hv
  obtain ⟨rfl, hP, hK, hD, hA, hN, hT⟩ := hv
  have hx := B.exec
  have hb := B.bytes
  have hr := B.returns
  have hts : ∀ w ∈ AW, w.before _ s = true := fun w h => atoms_spec (ws := Cond.code yX4_keep cX4_keep 4 (some .int) :: AW) B.pre w (List.mem_cons_of_mem _ h)
  have hown : s.vm.findClass RX4 = some m.cls := findClass_of_methodNamed B.named
  have hlocks := B.notSynchronized
  have hS : va_S A s.heap s.heap [] := va_S.rf
  have hK0 := hK.sub (tys' := []) [] rfl
  have hl := lv_entry ([.ref (ra 0), .int g]) (n := 4) (Nat.le_of_ble_eq_true rfl)
  rw [lg_entry_eq]
  generalize (lg_sl ([.ref (ra 0), .int g]) ++ List.replicate (4 - (lg_sl ([.ref (ra 0), .int g])).length) Slot.unset).toArray = ls at hl ⊢
  have hl : lv_has ls 4 [(0, .ref (ra 0)), (1, .int g)] := hl
  refine lv_aload_n hx hb dX4_keep_0 rfl (lv_at hl 0 rfl) ?_
  refine lv_iload_n hx hb dX4_keep_1 rfl (lv_at hl 1 rfl) ?_
  exact x_out (C := RX4) (rest := []) hx hb hml hown hts htb (x_X4_tapeDoneOnIS l D A cI cB ra σ fr g n hst hg hc ht0 hR) q401 q403 q8 q21 q404 rfl nX4_tapeDoneOn ⟨Nat.le_of_ble_eq_true rfl, Nat.le_of_ble_eq_true rfl⟩ hl.1 rfl rfl (Nat.le_of_ble_eq_true rfl) dX4_keep_2 ⟨Nat.le_of_ble_eq_true rfl, Nat.le_of_ble_eq_true rfl⟩ rPre_bl (va_recv hK hP (ci := 4) (q0 := 0) rfl rfl) (rPre_go hP hK hD hA hN hT hS) hS hlocks
set_option maxHeartbeats 4000000 in
set_option maxRecDepth 100000 in
theorem x_X4_keepAR (l : Launch) (D : va_G) (A : Nat → Prop) (cI cB : ClassId) (ra : Nat → Nat) (σ : St) (fr : va_W) (n : Nat) (g : Int32) (hst : l.stackTraces = false) (hg : vp_in g 16) (hc : ¬ zCnt σ g.toNatClampNeg = 0) (ht0 : tapeOK σ n) (hR : (cLoop (zSetRfs σ (-1 : Int32)) g (g.toNatClampNeg / 4) n 0 (zNow σ g.toNatClampNeg)).2.1 = 3) : XM l yX4_keep cX4_keep 4 (some .int) 8 [.ref (ra 0), .int g] (rPre D A cI cB (RW cI cB ra σ fr)) xAR D A (RW cI cB ra (zSetRfs (zSetRfs σ (-1 : Int32)) (cLoop (zSetRfs σ (-1 : Int32)) g (g.toNatClampNeg / 4) n 0 (zNow σ g.toNatClampNeg)).2.2) fr) := by
  refine vx_ofW (cc := cX4_keep) (maxL := 4) (ret := (some .int)) (by decide) rfl ?_
  intro p e s m args below meth c s₁ B hml htb hv
  obtain ⟨rfl, hP, hK, hD, hA, hN, hT⟩ := hv
  have hx := B.exec
  have hb := B.bytes
  have hr := B.returns
  have hts : ∀ w ∈ AW, w.before _ s = true := fun w h => atoms_spec (ws := Cond.code yX4_keep cX4_keep 4 (some .int) :: AW) B.pre w (List.mem_cons_of_mem _ h)
  have hown : s.vm.findClass RX4 = some m.cls := findClass_of_methodNamed B.named
  have hlocks := B.notSynchronized
  have hS : va_S A s.heap s.heap [] := va_S.rf
  have hK0 := hK.sub (tys' := []) [] rfl
  have hl := lv_entry ([.ref (ra 0), .int g]) (n := 4) (Nat.le_of_ble_eq_true rfl)
  rw [lg_entry_eq]
  generalize (lg_sl ([.ref (ra 0), .int g]) ++ List.replicate (4 - (lg_sl ([.ref (ra 0), .int g])).length) Slot.unset).toArray = ls at hl ⊢
  have hl : lv_has ls 4 [(0, .ref (ra 0)), (1, .int g)] := hl
  refine lv_aload_n hx hb dX4_keep_0 rfl (lv_at hl 0 rfl) ?_
  refine lv_iload_n hx hb dX4_keep_1 rfl (lv_at hl 1 rfl) ?_
  exact x_out (C := RX4) (rest := []) hx hb hml hown hts htb (x_X4_tapeDoneOnAR l D A cI cB ra σ fr g n hst hg hc ht0 hR) q401 q403 q8 q21 q404 rfl nX4_tapeDoneOn ⟨Nat.le_of_ble_eq_true rfl, Nat.le_of_ble_eq_true rfl⟩ hl.1 rfl rfl (Nat.le_of_ble_eq_true rfl) dX4_keep_2 ⟨Nat.le_of_ble_eq_true rfl, Nat.le_of_ble_eq_true rfl⟩ rPre_bl (va_recv hK hP (ci := 4) (q0 := 0) rfl rfl) (rPre_go hP hK hD hA hN hT hS) hS hlocks
set_option maxHeartbeats 4000000 in
set_option maxRecDepth 100000 in
theorem x_X4_keepN (l : Launch) (D : va_G) (A : Nat → Prop) (cI cB : ClassId) (ra : Nat → Nat) (σ : St) (fr : va_W) (g : Int32) (hst : l.stackTraces = false) (hg : ¬ vp_in g 16) : XM l yX4_keep cX4_keep 4 (some .int) 8 [.ref (ra 0), .int g] (rPre D A cI cB (RW cI cB ra σ fr)) xIA D A (RW cI cB ra ((zCnt σ), (zNow σ), (zLst σ), (zGst σ), (zSwg σ), (zTrd σ), (zCds σ), (zOps σ), (zOrd σ), (-1 : Int32)) fr) := by
  refine vx_ofW (cc := cX4_keep) (maxL := 4) (ret := (some .int)) (by decide) rfl ?_
  intro p e s m args below meth c s₁ B hml htb hv
  obtain ⟨rfl, hP, hK, hD, hA, hN, hT⟩ := hv
  have hx := B.exec
  have hb := B.bytes
  have hr := B.returns
  have hts : ∀ w ∈ AW, w.before _ s = true := fun w h => atoms_spec (ws := Cond.code yX4_keep cX4_keep 4 (some .int) :: AW) B.pre w (List.mem_cons_of_mem _ h)
  have hown : s.vm.findClass RX4 = some m.cls := findClass_of_methodNamed B.named
  have hlocks := B.notSynchronized
  have hS : va_S A s.heap s.heap [] := va_S.rf
  have hK0 := hK.sub (tys' := []) [] rfl
  have hl := lv_entry ([.ref (ra 0), .int g]) (n := 4) (Nat.le_of_ble_eq_true rfl)
  rw [lg_entry_eq]
  generalize (lg_sl ([.ref (ra 0), .int g]) ++ List.replicate (4 - (lg_sl ([.ref (ra 0), .int g])).length) Slot.unset).toArray = ls at hl ⊢
  have hl : lv_has ls 4 [(0, .ref (ra 0)), (1, .int g)] := hl
  refine lv_aload_n hx hb dX4_keep_0 rfl (lv_at hl 0 rfl) ?_
  refine lv_iload_n hx hb dX4_keep_1 rfl (lv_at hl 1 rfl) ?_
  exact x_out (C := RX4) (rest := []) hx hb hml hown hts htb (x_X4_tapeDoneOnN l D A cI cB ra σ fr g hst hg) q401 q403 q8 q21 q404 rfl nX4_tapeDoneOn ⟨Nat.le_of_ble_eq_true rfl, Nat.le_of_ble_eq_true rfl⟩ hl.1 rfl rfl (Nat.le_of_ble_eq_true rfl) dX4_keep_2 ⟨Nat.le_of_ble_eq_true rfl, Nat.le_of_ble_eq_true rfl⟩ rPre_bl (va_recv hK hP (ci := 4) (q0 := 0) rfl rfl) (rPre_go hP hK hD hA hN hT hS) hS hlocks
set_option maxHeartbeats 4000000 in
set_option maxRecDepth 100000 in
theorem x_X4_keepC (l : Launch) (D : va_G) (A : Nat → Prop) (cI cB : ClassId) (ra : Nat → Nat) (σ : St) (fr : va_W) (g : Int32) (hst : l.stackTraces = false) (hg : vp_in g 16) (hc : zCnt σ g.toNatClampNeg = 0) : XM l yX4_keep cX4_keep 4 (some .int) 8 [.ref (ra 0), .int g] (rPre D A cI cB (RW cI cB ra σ fr)) xIS D A (RW cI cB ra ((zCnt σ), (zNow σ), (zLst σ), (zGst σ), (zSwg σ), (zTrd σ), (zCds σ), (zOps σ), (zOrd σ), (-1 : Int32)) fr) := by
  refine vx_ofW (cc := cX4_keep) (maxL := 4) (ret := (some .int)) (by decide) rfl ?_
  intro p e s m args below meth c s₁ B hml htb hv
  obtain ⟨rfl, hP, hK, hD, hA, hN, hT⟩ := hv
  have hx := B.exec
  have hb := B.bytes
  have hr := B.returns
  have hts : ∀ w ∈ AW, w.before _ s = true := fun w h => atoms_spec (ws := Cond.code yX4_keep cX4_keep 4 (some .int) :: AW) B.pre w (List.mem_cons_of_mem _ h)
  have hown : s.vm.findClass RX4 = some m.cls := findClass_of_methodNamed B.named
  have hlocks := B.notSynchronized
  have hS : va_S A s.heap s.heap [] := va_S.rf
  have hK0 := hK.sub (tys' := []) [] rfl
  have hl := lv_entry ([.ref (ra 0), .int g]) (n := 4) (Nat.le_of_ble_eq_true rfl)
  rw [lg_entry_eq]
  generalize (lg_sl ([.ref (ra 0), .int g]) ++ List.replicate (4 - (lg_sl ([.ref (ra 0), .int g])).length) Slot.unset).toArray = ls at hl ⊢
  have hl : lv_has ls 4 [(0, .ref (ra 0)), (1, .int g)] := hl
  refine lv_aload_n hx hb dX4_keep_0 rfl (lv_at hl 0 rfl) ?_
  refine lv_iload_n hx hb dX4_keep_1 rfl (lv_at hl 1 rfl) ?_
  exact x_out (C := RX4) (rest := []) hx hb hml hown hts htb (x_X4_tapeDoneOnC l D A cI cB ra σ fr g hst hg hc) q401 q403 q8 q21 q404 rfl nX4_tapeDoneOn ⟨Nat.le_of_ble_eq_true rfl, Nat.le_of_ble_eq_true rfl⟩ hl.1 rfl rfl (Nat.le_of_ble_eq_true rfl) dX4_keep_2 ⟨Nat.le_of_ble_eq_true rfl, Nat.le_of_ble_eq_true rfl⟩ rPre_bl (va_recv hK hP (ci := 4) (q0 := 0) rfl rfl) (rPre_go hP hK hD hA hN hT hS) hS hlocks
