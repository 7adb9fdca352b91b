def sX1_rounded_e1 (n : Bool) (v : Int64) (x : Int32) (b : Int32) : Int64 := ((psHB n) <<< ((3 : Int32).toInt64 &&& 63))
def sX1_rounded_e2 (n : Bool) (v : Int64) (x : Int32) (b : Int32) : Int64 := (sX1_shiftedDown v (1 : Int32))
def sX1_rounded_j3 (n : Bool) (v : Int64) (x : Int32) (b : Int32) : Int32 := (if v < ((sX1_rounded_e1 n v x b) <<< ((1 : Int32).toInt64 &&& 63)) then x else (x + 1))
def sX1_rounded_j4 (n : Bool) (v : Int64) (x : Int32) (b : Int32) : Int64 := (if v < ((sX1_rounded_e1 n v x b) <<< ((1 : Int32).toInt64 &&& 63)) then v else (sX1_rounded_e2 n v x b))
def sX1_rounded_j5 (n : Bool) (v : Int64) (x : Int32) (b : Int32) : Int64 := (rndLoop (sX1_rounded_e1 n v x b) 60 (sX1_rounded_j4 n v x b) (sX1_rounded_j3 n v x b)).1
def sX1_rounded_j6 (n : Bool) (v : Int64) (x : Int32) (b : Int32) : Int32 := (rndLoop (sX1_rounded_e1 n v x b) 60 (sX1_rounded_j4 n v x b) (sX1_rounded_j3 n v x b)).2
def sX1_rounded_e7 (n : Bool) (v : Int64) (x : Int32) (b : Int32) : Int64 := (sX1_shiftedDown (sX1_rounded_j5 n v x b) ((1 : Int32) - (sX1_rounded_j6 n v x b)))
def sX1_rounded_j8 (n : Bool) (v : Int64) (x : Int32) (b : Int32) : Int32 := (if (sX1_rounded_j6 n v x b) < (1 : Int32) then (1 : Int32) else (sX1_rounded_j6 n v x b))
def sX1_rounded_j9 (n : Bool) (v : Int64) (x : Int32) (b : Int32) : Int64 := (if (sX1_rounded_j6 n v x b) < (1 : Int32) then (sX1_rounded_e7 n v x b) else (sX1_rounded_j5 n v x b))
def sX1_rounded_e10 (n : Bool) (v : Int64) (x : Int32) (b : Int32) : Int64 := ((sX1_rounded_j9 n v x b) >>> ((3 : Int32).toInt64 &&& 63))
def sX1_rounded_e11 (n : Bool) (v : Int64) (x : Int32) (b : Int32) : Int64 := ((sX1_rounded_j9 n v x b) &&& (7 : Int64))
def sX1_rounded_e12 (n : Bool) (v : Int64) (x : Int32) (b : Int32) : Int64 := ((sX1_rounded_e10 n v x b) + (1 : Int64))
def sX1_rounded_j13 (n : Bool) (v : Int64) (x : Int32) (b : Int32) : Int64 := (if (4 : Int64) < (sX1_rounded_e11 n v x b) then (sX1_rounded_e12 n v x b) else (if (sX1_rounded_e11 n v x b) = (4 : Int64) then (if ((sX1_rounded_e10 n v x b) &&& (1 : Int64)) = (1 : Int64) then (sX1_rounded_e12 n v x b) else (sX1_rounded_e10 n v x b)) else (sX1_rounded_e10 n v x b)))
def sX1_rounded (n : Bool) (v : Int64) (x : Int32) (b : Int32) : Int64 := if (sX1_rounded_j8 n v x b) < (psEI n) then (sX1_withSign n ((((sX1_rounded_j8 n v x b) - (1 : Int32)).toInt64 <<< ((psFB n).toInt64 &&& 63)) + (sX1_rounded_j13 n v x b)) b) else (sX1_withSign n (psInf n) b)
theorem nX1_rounded : yX1_rounded.cls ≠ "java/lang/invoke/MethodHandle" ∧ yX1_rounded.cls ≠ "java/lang/invoke/VarHandle" ∧ (parseMethodDescriptor yX1_rounded.desc).map (fun d => d.parameters.length) = some 3 := by decide +kernel
set_option maxHeartbeats 4000000 in
set_option maxRecDepth 100000 in
theorem m_X1_rounded (l : Launch) (D : va_G) (h0 : Nat) (n : Bool) (v : Int64) (x : Int32) (b : Int32) : PM l yX1_rounded cX1_rounded 14 (some .long) 1 [.ref h0, .long v, .int x, .int b] (soPS D h0 n) (.long (sX1_rounded n v x b)) := by
  refine Met.ofW (cc := cX1_rounded) (maxL := 14) (ret := (some .long)) (by decide) rfl ?_
  intro p e s m args below meth c s₁ B hml hv
  obtain ⟨rfl, hP, hK, hA⟩ := hv
  have hx := B.exec
  have hb := B.bytes
  have hr := B.returns
  have hts : ∀ w ∈ AW, w.before _ s = true := fun w h => atoms_spec (ws := Cond.code yX1_rounded cX1_rounded 14 (some .long) :: AW) B.pre w (List.mem_cons_of_mem _ h)
  have hown : s.vm.findClass RX1 = some m.cls := findClass_of_methodNamed B.named
  have hlocks := B.notSynchronized
  have hl := lv_entry ([.ref h0, .long v, .int x, .int b]) (n := 14) (Nat.le_of_ble_eq_true rfl)
  rw [lg_entry_eq]
  generalize (lg_sl ([.ref h0, .long v, .int x, .int b]) ++ List.replicate (14 - (lg_sl ([.ref h0, .long v, .int x, .int b])).length) Slot.unset).toArray = ls at hl ⊢
  have hl : lv_has ls 14 [(0, .ref h0), (1, .long v), (3, .int x), (4, .int b)] := hl
  refine lv_aload_n hx hb dX1_rounded_0 rfl (lv_at hl 0 rfl) ?_
  refine va_get (v := .long (psHB n)) (C := RX1) (T := TX1) (N := 9) (ci := 2) hx hb hts inX1 hown hK hP 0 rfl rfl 2 (by decide) (hts _ q68) (fun _ h => h) rfl dX1_rounded_1 ?_
  refine lv_iconst (v := 3) hx hb dX1_rounded_4 (by decide) ?_
  refine lv_lshl hx hb dX1_rounded_5 rfl ?_
  refine p_top (w := .long (sX1_rounded_e1 n v x b)) rfl ?_
  refine lv_lstore (lv' := [(5, .long (sX1_rounded_e1 n v x b)), (0, .ref h0), (1, .long v), (3, .int x), (4, .int b)]) hx hb dX1_rounded_6 hl (by decide) rfl (fun ls hl => ?_)
  refine lv_lload_n hx hb dX1_rounded_8 rfl (lv_at hl 2 rfl) ?_
  refine lv_lstore (lv' := [(7, .long v), (5, .long (sX1_rounded_e1 n v x b)), (0, .ref h0), (1, .long v), (3, .int x), (4, .int b)]) hx hb dX1_rounded_9 hl (by decide) rfl (fun ls hl => ?_)
  refine lv_iload_n hx hb dX1_rounded_11 rfl (lv_at hl 4 rfl) ?_
  refine lv_istore (lv' := [(9, .int x), (7, .long v), (5, .long (sX1_rounded_e1 n v x b)), (0, .ref h0), (1, .long v), (3, .int x), (4, .int b)]) hx hb dX1_rounded_12 hl (by decide) rfl (fun ls hl => ?_)
  refine lv_lload hx hb dX1_rounded_14 (lv_at hl 1 rfl) ?_
  refine lv_lload hx hb dX1_rounded_16 (lv_at hl 2 rfl) ?_
  refine lv_iconst (v := 1) hx hb dX1_rounded_18 (by decide) ?_
  refine lv_lshl hx hb dX1_rounded_19 rfl ?_
  refine p_join (J := 35) (nL := 14) (st := []) (lv := [(9, .int (sX1_rounded_j3 n v x b)), (7, .long (sX1_rounded_j4 n v x b)), (5, .long (sX1_rounded_e1 n v x b)), (0, .ref h0), (1, .long v), (3, .int x), (4, .int b)]) (fun ls hl => ?_) (fun K1 => ?_)
  rotate_left
  · refine c_lcmp_lt (tgt := 35) hx hb dX1_rounded_20 dX1_rounded_21 (by decide) (fun h1 => ?_) (fun h1 => ?_)
    · skip
      simp only [sX1_rounded_j3, sX1_rounded_j4, if_pos h1] at K1
      exact K1 ls (lv_sub hl [0, 1, 2, 3, 4, 5, 6] rfl)
    · skip
      refine lv_lload hx hb dX1_rounded_24 (lv_at hl 1 rfl) ?_
      refine lv_iconst (v := 1) hx hb dX1_rounded_26 (by decide) ?_
      refine p_S (rest := []) hx hb hml hown hts (m_X1_shiftedDown l v (1 : Int32)) q281 q282 q24 q283 nX1_shiftedDown ⟨Nat.le_of_ble_eq_true rfl, Nat.le_of_ble_eq_true rfl⟩ hl.1 rfl rfl (Nat.le_of_ble_eq_true rfl) dX1_rounded_27 ⟨Nat.zero_le _, Nat.zero_le _⟩ blind_c (fun _ _ _ => trivial) ?_
      refine p_top (w := .long (sX1_rounded_e2 n v x b)) rfl ?_
      refine lv_lstore (lv' := [(7, .long (sX1_rounded_e2 n v x b)), (9, .int x), (5, .long (sX1_rounded_e1 n v x b)), (0, .ref h0), (1, .long v), (3, .int x), (4, .int b)]) hx hb dX1_rounded_30 hl (by decide) rfl (fun ls hl => ?_)
      refine lv_iinc (v := (x + 1)) (lv' := [(9, .int (x + 1)), (7, .long (sX1_rounded_e2 n v x b)), (5, .long (sX1_rounded_e1 n v x b)), (0, .ref h0), (1, .long v), (3, .int x), (4, .int b)]) hx hb dX1_rounded_32 hl (k := 1) rfl (by first | rfl | decide) (by decide) rfl (fun ls hl => ?_)
      simp only [sX1_rounded_j3, sX1_rounded_j4, if_neg h1] at K1
      exact K1 ls (lv_sub hl [0, 1, 2, 3, 4, 5, 6] rfl)
  refine lv_iconst (v := 0) hx hb dX1_rounded_35 (by decide) ?_
  refine lv_istore (lv' := [(10, .int (0 : Int32)), (9, .int (sX1_rounded_j3 n v x b)), (7, .long (sX1_rounded_j4 n v x b)), (5, .long (sX1_rounded_e1 n v x b)), (0, .ref h0), (1, .long v), (3, .int x), (4, .int b)]) hx hb dX1_rounded_36 hl (by decide) rfl (fun ls hl => ?_)
  refine p_join (J := 74) (nL := 14) (st := []) (lv := [(9, .int (sX1_rounded_j6 n v x b)), (7, .long (sX1_rounded_j5 n v x b)), (5, .long (sX1_rounded_e1 n v x b)), (0, .ref h0), (1, .long v), (3, .int x), (4, .int b)]) (fun ls hl => ?_) (fun KL => ?_)
  rotate_left
  · refine p_loop (α := Int64 × Int32) (J := 38) (nL := 14) (st := []) (fun k a => (10, .int (nI (60 - k))) :: (9, .int a.2) :: (7, .long a.1) :: [(5, .long (sX1_rounded_e1 n v x b)), (0, .ref h0), (1, .long v), (3, .int x), (4, .int b)]) (fun k a => k ≤ 60 ∧ rndLoop (sX1_rounded_e1 n v x b) k a.1 a.2 = rndLoop (sX1_rounded_e1 n v x b) 60 (sX1_rounded_j4 n v x b) (sX1_rounded_j3 n v x b)) (fun k a ls hI hl ih => ?_) 60 ((sX1_rounded_j4 n v x b), (sX1_rounded_j3 n v x b)) ⟨Nat.le_refl _, rfl⟩ ls (lv_sub hl [0, 1, 2, 3, 4, 5, 6, 7] rfl)
    obtain ⟨m7, e9⟩ := a
    obtain ⟨hk, hI⟩ := hI
    dsimp only at hI hl
    refine lv_iload hx hb dX1_rounded_38 (lv_at hl 0 rfl) ?_
    refine lv_bipush (v := 60) hx hb dX1_rounded_40 (by decide) ?_
    refine c_icmp_ge (tgt := 74) hx hb dX1_rounded_42 (by decide) (fun h => ?_) (fun h => ?_)
    · have hk0 : k = 0 := by
        rcases Nat.eq_zero_or_pos k with q | q
        · exact q
        · exact absurd (show nI (60 - k) < nI 60 from nI_lt (by omega) (by omega)) h
      subst hk0
      have hX : rndLoop (sX1_rounded_e1 n v x b) 0 m7 e9 = (m7, e9) := rfl
      have e1 : (sX1_rounded_j5 n v x b) = m7 := by show (rndLoop (sX1_rounded_e1 n v x b) 60 (sX1_rounded_j4 n v x b) (sX1_rounded_j3 n v x b)).1 = m7; rw [← hI, hX]
      have e2 : (sX1_rounded_j6 n v x b) = e9 := by show (rndLoop (sX1_rounded_e1 n v x b) 60 (sX1_rounded_j4 n v x b) (sX1_rounded_j3 n v x b)).2 = e9; rw [← hI, hX]
      rw [e1, e2] at KL
      exact KL ls (lv_sub hl [1, 2, 3, 4, 5, 6, 7] rfl)
    · obtain ⟨k, rfl⟩ : ∃ k2, k = k2 + 1 := by
        rcases k with _ | k2
        · exact absurd h (show ¬ nI 60 < (60 : Int32) by decide)
        · exact ⟨k2, rfl⟩
      refine lv_lload hx hb dX1_rounded_45 (lv_at hl 2 rfl) ?_
      refine lv_lload hx hb dX1_rounded_47 (lv_at hl 3 rfl) ?_
      refine c_lcmp_ge (tgt := 74) hx hb dX1_rounded_49 dX1_rounded_50 (by decide) (fun h2 => ?_) (fun h2 => ?_)
      · skip
        have hX : rndLoop (sX1_rounded_e1 n v x b) (k + 1) m7 e9 = (m7, e9) := by rw [rndLoop, if_neg h2]
        have e1 : (sX1_rounded_j5 n v x b) = m7 := by show (rndLoop (sX1_rounded_e1 n v x b) 60 (sX1_rounded_j4 n v x b) (sX1_rounded_j3 n v x b)).1 = m7; rw [← hI, hX]
        have e2 : (sX1_rounded_j6 n v x b) = e9 := by show (rndLoop (sX1_rounded_e1 n v x b) 60 (sX1_rounded_j4 n v x b) (sX1_rounded_j3 n v x b)).2 = e9; rw [← hI, hX]
        rw [e1, e2] at KL
        exact KL ls (lv_sub hl [1, 2, 3, 4, 5, 6, 7] rfl)
      · skip
        refine lv_iload hx hb dX1_rounded_53 (lv_at hl 1 rfl) ?_
        refine lv_iconst (v := 1) hx hb dX1_rounded_55 (by decide) ?_
        refine c_icmp_le (tgt := 74) hx hb dX1_rounded_56 (by decide) (fun h3 => ?_) (fun h3 => ?_)
        · skip
          have hX : rndLoop (sX1_rounded_e1 n v x b) (k + 1) m7 e9 = (m7, e9) := by rw [rndLoop, if_pos h2, if_neg h3]
          have e1 : (sX1_rounded_j5 n v x b) = m7 := by show (rndLoop (sX1_rounded_e1 n v x b) 60 (sX1_rounded_j4 n v x b) (sX1_rounded_j3 n v x b)).1 = m7; rw [← hI, hX]
          have e2 : (sX1_rounded_j6 n v x b) = e9 := by show (rndLoop (sX1_rounded_e1 n v x b) 60 (sX1_rounded_j4 n v x b) (sX1_rounded_j3 n v x b)).2 = e9; rw [← hI, hX]
          rw [e1, e2] at KL
          exact KL ls (lv_sub hl [1, 2, 3, 4, 5, 6, 7] rfl)
        · skip
          refine lv_lload hx hb dX1_rounded_59 (lv_at hl 2 rfl) ?_
          refine lv_iconst (v := 1) hx hb dX1_rounded_61 (by decide) ?_
          refine lv_lshl hx hb dX1_rounded_62 rfl ?_
          refine lv_lstore (lv' := [(7, .long (m7 <<< ((1 : Int32).toInt64 &&& 63))), (10, .int (nI (60 - (k + 1)))), (9, .int e9), (5, .long (sX1_rounded_e1 n v x b)), (0, .ref h0), (1, .long v), (3, .int x), (4, .int b)]) hx hb dX1_rounded_63 hl (by decide) rfl (fun ls hl => ?_)
          refine lv_iinc (v := (e9 + (-1))) (lv' := [(9, .int (e9 + (-1))), (7, .long (m7 <<< ((1 : Int32).toInt64 &&& 63))), (10, .int (nI (60 - (k + 1)))), (5, .long (sX1_rounded_e1 n v x b)), (0, .ref h0), (1, .long v), (3, .int x), (4, .int b)]) hx hb dX1_rounded_65 hl (k := 2) rfl (by first | rfl | decide) (by decide) rfl (fun ls hl => ?_)
          refine lv_iinc (v := ((nI (60 - (k + 1))) + 1)) (lv' := [(10, .int ((nI (60 - (k + 1))) + 1)), (9, .int (e9 + (-1))), (7, .long (m7 <<< ((1 : Int32).toInt64 &&& 63))), (5, .long (sX1_rounded_e1 n v x b)), (0, .ref h0), (1, .long v), (3, .int x), (4, .int b)]) hx hb dX1_rounded_68 hl (k := 2) rfl (by first | rfl | decide) (by decide) rfl (fun ls hl => ?_)
          refine lv_goto (tgt := 38) hx hb dX1_rounded_71 (by decide) ?_
          have e10 : nI (60 - (k + 1)) + 1 = nI (60 - k) := by rw [← nI_succ]; congr 1; omega
          rw [e10] at hl
          exact ih k (m7 <<< ((1 : Int32).toInt64 &&& 63), e9 + (-1)) ls (by omega) ⟨by omega, by rw [← hI]; dsimp only; rw [rndLoop, if_pos h2, if_pos h3]⟩ (lv_sub hl [0, 1, 2, 3, 4, 5, 6, 7] rfl)
  refine lv_iload hx hb dX1_rounded_74 (lv_at hl 0 rfl) ?_
  refine lv_iconst (v := 1) hx hb dX1_rounded_76 (by decide) ?_
  refine p_join (J := 94) (nL := 14) (st := []) (lv := [(9, .int (sX1_rounded_j8 n v x b)), (7, .long (sX1_rounded_j9 n v x b)), (5, .long (sX1_rounded_e1 n v x b)), (0, .ref h0), (1, .long v), (3, .int x), (4, .int b)]) (fun ls hl => ?_) (fun K2 => ?_)
  rotate_left
  · refine c_icmp_ge (tgt := 94) hx hb dX1_rounded_77 (by decide) (fun h2 => ?_) (fun h2 => ?_)
    · skip
      simp only [sX1_rounded_j8, sX1_rounded_j9, if_neg h2] at K2
      exact K2 ls (lv_sub hl [0, 1, 2, 3, 4, 5, 6] rfl)
    · skip
      refine lv_lload hx hb dX1_rounded_80 (lv_at hl 1 rfl) ?_
      refine lv_iconst (v := 1) hx hb dX1_rounded_82 (by decide) ?_
      refine lv_iload hx hb dX1_rounded_83 (lv_at hl 0 rfl) ?_
      refine lv_isub hx hb dX1_rounded_85 ?_
      refine p_S (rest := []) hx hb hml hown hts (m_X1_shiftedDown l (sX1_rounded_j5 n v x b) ((1 : Int32) - (sX1_rounded_j6 n v x b))) q281 q282 q24 q283 nX1_shiftedDown ⟨Nat.le_of_ble_eq_true rfl, Nat.le_of_ble_eq_true rfl⟩ hl.1 rfl rfl (Nat.le_of_ble_eq_true rfl) dX1_rounded_86 ⟨Nat.zero_le _, Nat.zero_le _⟩ blind_c (fun _ _ _ => trivial) ?_
      refine p_top (w := .long (sX1_rounded_e7 n v x b)) rfl ?_
      refine lv_lstore (lv' := [(7, .long (sX1_rounded_e7 n v x b)), (9, .int (sX1_rounded_j6 n v x b)), (5, .long (sX1_rounded_e1 n v x b)), (0, .ref h0), (1, .long v), (3, .int x), (4, .int b)]) hx hb dX1_rounded_89 hl (by decide) rfl (fun ls hl => ?_)
      refine lv_iconst (v := 1) hx hb dX1_rounded_91 (by decide) ?_
      refine lv_istore (lv' := [(9, .int (1 : Int32)), (7, .long (sX1_rounded_e7 n v x b)), (5, .long (sX1_rounded_e1 n v x b)), (0, .ref h0), (1, .long v), (3, .int x), (4, .int b)]) hx hb dX1_rounded_92 hl (by decide) rfl (fun ls hl => ?_)
      simp only [sX1_rounded_j8, sX1_rounded_j9, if_pos h2] at K2
      exact K2 ls (lv_sub hl [0, 1, 2, 3, 4, 5, 6] rfl)
  refine lv_iload hx hb dX1_rounded_94 (lv_at hl 0 rfl) ?_
  refine lv_aload_n hx hb dX1_rounded_96 rfl (lv_at hl 3 rfl) ?_
  refine va_get (v := .int (psEI n)) (C := RX1) (T := TX1) (N := 9) (ci := 2) hx hb hts inX1 hown hK hP 0 rfl rfl 5 (by decide) (hts _ q71) (fun _ h => h) rfl dX1_rounded_97 ?_
  refine c_icmp_lt (tgt := 114) hx hb dX1_rounded_100 (by decide) (fun h3 => ?_) (fun h3 => ?_)
  · skip
    refine lv_lload hx hb dX1_rounded_114 (lv_at hl 1 rfl) ?_
    refine lv_iconst (v := 3) hx hb dX1_rounded_116 (by decide) ?_
    refine lv_lshr hx hb dX1_rounded_117 rfl ?_
    refine p_top (w := .long (sX1_rounded_e10 n v x b)) rfl ?_
    refine lv_lstore (lv' := [(10, .long (sX1_rounded_e10 n v x b)), (9, .int (sX1_rounded_j8 n v x b)), (7, .long (sX1_rounded_j9 n v x b)), (5, .long (sX1_rounded_e1 n v x b)), (0, .ref h0), (1, .long v), (3, .int x), (4, .int b)]) hx hb dX1_rounded_118 hl (by decide) rfl (fun ls hl => ?_)
    refine lv_lload hx hb dX1_rounded_120 (lv_at hl 2 rfl) ?_
    refine lv_ldc2 hx hb hown (hts _ q292) dX1_rounded_122 ?_
    refine lv_land hx hb dX1_rounded_125 ?_
    refine p_top (w := .long (sX1_rounded_e11 n v x b)) rfl ?_
    refine lv_lstore (lv' := [(12, .long (sX1_rounded_e11 n v x b)), (10, .long (sX1_rounded_e10 n v x b)), (9, .int (sX1_rounded_j8 n v x b)), (7, .long (sX1_rounded_j9 n v x b)), (5, .long (sX1_rounded_e1 n v x b)), (0, .ref h0), (1, .long v), (3, .int x), (4, .int b)]) hx hb dX1_rounded_126 hl (by decide) rfl (fun ls hl => ?_)
    refine lv_lload hx hb dX1_rounded_128 (lv_at hl 0 rfl) ?_
    refine lv_ldc2 hx hb hown (hts _ q293) dX1_rounded_130 ?_
    refine p_join (J := 161) (nL := 14) (st := []) (lv := [(10, .long (sX1_rounded_j13 n v x b)), (12, .long (sX1_rounded_e11 n v x b)), (9, .int (sX1_rounded_j8 n v x b)), (7, .long (sX1_rounded_j9 n v x b)), (5, .long (sX1_rounded_e1 n v x b)), (0, .ref h0), (1, .long v), (3, .int x), (4, .int b)]) (fun ls hl => ?_) (fun K4 => ?_)
    rotate_left
    · refine c_lcmp_gt (tgt := 155) hx hb dX1_rounded_133 dX1_rounded_134 (by decide) (fun h4 => ?_) (fun h4 => ?_)
      · skip
        refine lv_lload hx hb dX1_rounded_155 (lv_at hl 1 rfl) ?_
        refine lv_lconst (v := 1) hx hb dX1_rounded_157 (by decide) ?_
        refine lv_ladd hx hb dX1_rounded_158 ?_
        refine p_top (w := .long (sX1_rounded_e12 n v x b)) rfl ?_
        refine lv_lstore (lv' := [(10, .long (sX1_rounded_e12 n v x b)), (12, .long (sX1_rounded_e11 n v x b)), (9, .int (sX1_rounded_j8 n v x b)), (7, .long (sX1_rounded_j9 n v x b)), (5, .long (sX1_rounded_e1 n v x b)), (0, .ref h0), (1, .long v), (3, .int x), (4, .int b)]) hx hb dX1_rounded_159 hl (by decide) rfl (fun ls hl => ?_)
        simp only [sX1_rounded_j13, if_pos h4] at K4
        exact K4 ls (lv_sub hl [0, 1, 2, 3, 4, 5, 6, 7, 8] rfl)
      · skip
        refine lv_lload hx hb dX1_rounded_137 (lv_at hl 0 rfl) ?_
        refine lv_ldc2 hx hb hown (hts _ q293) dX1_rounded_139 ?_
        refine c_lcmp_ne (tgt := 161) hx hb dX1_rounded_142 dX1_rounded_143 (by decide) (fun h5 => ?_) (fun h5 => ?_)
        · skip
          simp only [sX1_rounded_j13, if_neg h4, if_neg h5] at K4
          exact K4 ls (lv_sub hl [1, 0, 2, 3, 4, 5, 6, 7, 8] rfl)
        · skip
          refine lv_lload hx hb dX1_rounded_146 (lv_at hl 1 rfl) ?_
          refine lv_lconst (v := 1) hx hb dX1_rounded_148 (by decide) ?_
          refine lv_land hx hb dX1_rounded_149 ?_
          refine lv_lconst (v := 1) hx hb dX1_rounded_150 (by decide) ?_
          refine c_lcmp_ne (tgt := 161) hx hb dX1_rounded_151 dX1_rounded_152 (by decide) (fun h6 => ?_) (fun h6 => ?_)
          · skip
            simp only [sX1_rounded_j13, if_neg h4, if_pos h5, if_neg h6] at K4
            exact K4 ls (lv_sub hl [1, 0, 2, 3, 4, 5, 6, 7, 8] rfl)
          · skip
            refine lv_lload hx hb dX1_rounded_155 (lv_at hl 1 rfl) ?_
            refine lv_lconst (v := 1) hx hb dX1_rounded_157 (by decide) ?_
            refine lv_ladd hx hb dX1_rounded_158 ?_
            refine p_top (w := .long (sX1_rounded_e12 n v x b)) rfl ?_
            refine lv_lstore (lv' := [(10, .long (sX1_rounded_e12 n v x b)), (12, .long (sX1_rounded_e11 n v x b)), (9, .int (sX1_rounded_j8 n v x b)), (7, .long (sX1_rounded_j9 n v x b)), (5, .long (sX1_rounded_e1 n v x b)), (0, .ref h0), (1, .long v), (3, .int x), (4, .int b)]) hx hb dX1_rounded_159 hl (by decide) rfl (fun ls hl => ?_)
            simp only [sX1_rounded_j13, if_neg h4, if_pos h5, if_pos h6] at K4
            exact K4 ls (lv_sub hl [0, 1, 2, 3, 4, 5, 6, 7, 8] rfl)
    refine lv_aload_n hx hb dX1_rounded_161 rfl (lv_at hl 5 rfl) ?_
    refine lv_iload hx hb dX1_rounded_162 (lv_at hl 2 rfl) ?_
    refine lv_iconst (v := 1) hx hb dX1_rounded_164 (by decide) ?_
    refine lv_isub hx hb dX1_rounded_165 ?_
    refine lv_i2l hx hb dX1_rounded_166 rfl ?_
    refine lv_aload_n hx hb dX1_rounded_167 rfl (lv_at hl 5 rfl) ?_
    refine va_get (v := .int (psFB n)) (C := RX1) (T := TX1) (N := 9) (ci := 2) hx hb hts inX1 hown hK hP 0 rfl rfl 1 (by decide) (hts _ q67) (fun _ h => h) rfl dX1_rounded_168 ?_
    refine lv_lshl hx hb dX1_rounded_171 rfl ?_
    refine lv_lload hx hb dX1_rounded_172 (lv_at hl 0 rfl) ?_
    refine lv_ladd hx hb dX1_rounded_174 ?_
    refine lv_iload hx hb dX1_rounded_175 (lv_at hl 8 rfl) ?_
    refine p_V (C := RX1) (rest := []) hx hb hml hown hts (m_X1_withSign l D h0 n ((((sX1_rounded_j8 n v x b) - (1 : Int32)).toInt64 <<< ((psFB n).toInt64 &&& 63)) + (sX1_rounded_j13 n v x b)) b) q288 q290 q7 q24 q291 rfl nX1_withSign ⟨Nat.le_of_ble_eq_true rfl, Nat.le_of_ble_eq_true rfl⟩ hl.1 rfl rfl (Nat.le_of_ble_eq_true rfl) dX1_rounded_177 ⟨Nat.zero_le _, Nat.zero_le _⟩ soPS_bl (va_recv hK hP (ci := 2) (q0 := 0) rfl rfl) (soPS_go hP hK hA) ?_
    exact W.lret hx hb hr (fun t ht hW => pq_l (by rw [sX1_rounded, if_pos h3]) ht) nil_free dX1_rounded_180
  · skip
    refine lv_aload_n hx hb dX1_rounded_103 rfl (lv_at hl 3 rfl) ?_
    refine lv_aload_n hx hb dX1_rounded_104 rfl (lv_at hl 3 rfl) ?_
    refine va_get (v := .long (psInf n)) (C := RX1) (T := TX1) (N := 9) (ci := 2) hx hb hts inX1 hown hK hP 0 rfl rfl 8 (by decide) (hts _ q74) (fun _ h => h) rfl dX1_rounded_105 ?_
    refine lv_iload hx hb dX1_rounded_108 (lv_at hl 6 rfl) ?_
    refine p_V (C := RX1) (rest := []) hx hb hml hown hts (m_X1_withSign l D h0 n (psInf n) b) q288 q290 q7 q24 q291 rfl nX1_withSign ⟨Nat.le_of_ble_eq_true rfl, Nat.le_of_ble_eq_true rfl⟩ hl.1 rfl rfl (Nat.le_of_ble_eq_true rfl) dX1_rounded_110 ⟨Nat.zero_le _, Nat.zero_le _⟩ soPS_bl (va_recv hK hP (ci := 2) (q0 := 0) rfl rfl) (soPS_go hP hK hA) ?_
    exact W.lret hx hb hr (fun t ht hW => pq_l (by rw [sX1_rounded, if_neg h3]) ht) nil_free dX1_rounded_113
def sX1_sum_j1 (n : Bool) (v : Int64) (w : Int64) : Int64 := (if (sX1_size n v) < (sX1_size n w) then w else v)
def sX1_sum_j2 (n : Bool) (v : Int64) (w : Int64) : Int64 := (if (sX1_size n v) < (sX1_size n w) then v else w)
def sX1_sum_e3 (n : Bool) (v : Int64) (w : Int64) : Int64 := ((sX1_significand n (sX1_sum_j1 n v w)) <<< ((3 : Int32).toInt64 &&& 63))
def sX1_sum_e4 (n : Bool) (v : Int64) (w : Int64) : Int64 := (sX1_shiftedDown ((sX1_significand n (sX1_sum_j2 n v w)) <<< ((3 : Int32).toInt64 &&& 63)) ((sX1_exponent n (sX1_sum_j1 n v w)) - (sX1_exponent n (sX1_sum_j2 n v w))))
def sX1_sum_j5 (n : Bool) (v : Int64) (w : Int64) : Int32 := (if v < (0 : Int64) then (1 : Int32) else (0 : Int32))
def sX1_sum_j6 (n : Bool) (v : Int64) (w : Int64) : Int32 := (if w < (0 : Int64) then (1 : Int32) else (0 : Int32))
def sX1_sum_j7 (n : Bool) (v : Int64) (w : Int64) : Int32 := (if (sX1_sum_j5 n v w) = (sX1_sum_j6 n v w) then (1 : Int32) else (0 : Int32))
def sX1_sum_j8 (n : Bool) (v : Int64) (w : Int64) : Int64 := (if (sX1_sum_j7 n v w) = 0 then ((sX1_sum_e3 n v w) - (sX1_sum_e4 n v w)) else ((sX1_sum_e3 n v w) + (sX1_sum_e4 n v w)))
def sX1_sum_j9 (n : Bool) (v : Int64) (w : Int64) : Int32 := (if (sX1_sum_j1 n v w) < (0 : Int64) then (1 : Int32) else (0 : Int32))
def sX1_sum (n : Bool) (v : Int64) (w : Int64) : Int64 := if (sX1_isInfinite n v) = 0 then if (sX1_isInfinite n w) = 0 then if (sX1_sum_j8 n v w) = (0 : Int64) then ((v &&& w) &&& (psSB n)) else (sX1_rounded n (sX1_sum_j8 n v w) (sX1_exponent n (sX1_sum_j1 n v w)) (sX1_sum_j9 n v w)) else w else v
theorem nX1_sum : yX1_sum.cls ≠ "java/lang/invoke/MethodHandle" ∧ yX1_sum.cls ≠ "java/lang/invoke/VarHandle" ∧ (parseMethodDescriptor yX1_sum.desc).map (fun d => d.parameters.length) = some 2 := by decide +kernel
set_option maxHeartbeats 4000000 in
set_option maxRecDepth 100000 in
theorem m_X1_sum (l : Launch) (D : va_G) (h0 : Nat) (n : Bool) (v : Int64) (w : Int64) : PM l yX1_sum cX1_sum 16 (some .long) 2 [.ref h0, .long v, .long w] (soPS D h0 n) (.long (sX1_sum n v w)) := by
  refine Met.ofW (cc := cX1_sum) (maxL := 16) (ret := (some .long)) (by decide) rfl ?_
  intro p e s m args below meth c s₁ B hml hv
  obtain ⟨rfl, hP, hK, hA⟩ := hv
  have hx := B.exec
  have hb := B.bytes
  have hr := B.returns
  have hts : ∀ w ∈ AW, w.before _ s = true := fun w h => atoms_spec (ws := Cond.code yX1_sum cX1_sum 16 (some .long) :: AW) B.pre w (List.mem_cons_of_mem _ h)
  have hown : s.vm.findClass RX1 = some m.cls := findClass_of_methodNamed B.named
  have hlocks := B.notSynchronized
  have hl := lv_entry ([.ref h0, .long v, .long w]) (n := 16) (Nat.le_of_ble_eq_true rfl)
  rw [lg_entry_eq]
  generalize (lg_sl ([.ref h0, .long v, .long w]) ++ List.replicate (16 - (lg_sl ([.ref h0, .long v, .long w])).length) Slot.unset).toArray = ls at hl ⊢
  have hl : lv_has ls 16 [(0, .ref h0), (1, .long v), (3, .long w)] := hl
  refine lv_aload_n hx hb dX1_sum_0 rfl (lv_at hl 0 rfl) ?_
  refine lv_lload_n hx hb dX1_sum_1 rfl (lv_at hl 1 rfl) ?_
  refine p_V (C := RX1) (rest := []) hx hb hml hown hts (m_X1_isInfinite l D h0 n v) q261 q263 q2 q24 q264 rfl nX1_isInfinite ⟨Nat.le_of_ble_eq_true rfl, Nat.le_of_ble_eq_true rfl⟩ hl.1 rfl rfl (Nat.le_of_ble_eq_true rfl) dX1_sum_2 ⟨Nat.zero_le _, Nat.zero_le _⟩ soPS_bl (va_recv hK hP (ci := 2) (q0 := 0) rfl rfl) (soPS_go hP hK hA) ?_
  refine c_if_eq (tgt := 10) hx hb dX1_sum_5 (by decide) (fun h1 => ?_) (fun h1 => ?_)
  · skip
    refine lv_aload_n hx hb dX1_sum_10 rfl (lv_at hl 0 rfl) ?_
    refine lv_lload_n hx hb dX1_sum_11 rfl (lv_at hl 2 rfl) ?_
    refine p_V (C := RX1) (rest := []) hx hb hml hown hts (m_X1_isInfinite l D h0 n w) q261 q263 q2 q24 q264 rfl nX1_isInfinite ⟨Nat.le_of_ble_eq_true rfl, Nat.le_of_ble_eq_true rfl⟩ hl.1 rfl rfl (Nat.le_of_ble_eq_true rfl) dX1_sum_12 ⟨Nat.zero_le _, Nat.zero_le _⟩ soPS_bl (va_recv hK hP (ci := 2) (q0 := 0) rfl rfl) (soPS_go hP hK hA) ?_
    refine c_if_eq (tgt := 20) hx hb dX1_sum_15 (by decide) (fun h2 => ?_) (fun h2 => ?_)
    · skip
      refine lv_aload_n hx hb dX1_sum_20 rfl (lv_at hl 0 rfl) ?_
      refine lv_lload_n hx hb dX1_sum_21 rfl (lv_at hl 1 rfl) ?_
      refine p_V (C := RX1) (rest := []) hx hb hml hown hts (m_X1_size l D h0 n v) q243 q244 q245 q24 q246 rfl nX1_size ⟨Nat.le_of_ble_eq_true rfl, Nat.le_of_ble_eq_true rfl⟩ hl.1 rfl rfl (Nat.le_of_ble_eq_true rfl) dX1_sum_22 ⟨Nat.zero_le _, Nat.zero_le _⟩ soPS_bl (va_recv hK hP (ci := 2) (q0 := 0) rfl rfl) (soPS_go hP hK hA) ?_
      refine lv_aload_n hx hb dX1_sum_25 rfl (lv_at hl 0 rfl) ?_
      refine lv_lload_n hx hb dX1_sum_26 rfl (lv_at hl 2 rfl) ?_
      refine p_V (C := RX1) (rest := [.long (sX1_size n v)]) hx hb hml hown hts (m_X1_size l D h0 n w) q243 q244 q245 q24 q246 rfl nX1_size ⟨Nat.le_of_ble_eq_true rfl, Nat.le_of_ble_eq_true rfl⟩ hl.1 rfl rfl (Nat.le_of_ble_eq_true rfl) dX1_sum_27 ⟨Nat.zero_le _, Nat.zero_le _⟩ soPS_bl (va_recv hK hP (ci := 2) (q0 := 0) rfl rfl) (soPS_go hP hK hA) ?_
      refine p_join (J := 39) (nL := 16) (st := [.long (sX1_sum_j1 n v w)]) (lv := [(0, .ref h0), (1, .long v), (3, .long w)]) (fun ls hl => ?_) (fun K3 => ?_)
      rotate_left
      · refine c_lcmp_lt (tgt := 38) hx hb dX1_sum_30 dX1_sum_31 (by decide) (fun h3 => ?_) (fun h3 => ?_)
        · skip
          refine lv_lload_n hx hb dX1_sum_38 rfl (lv_at hl 2 rfl) ?_
          simp only [sX1_sum_j1, if_pos h3] at K3
          exact K3 ls (lv_sub hl [0, 1, 2] rfl)
        · skip
          refine lv_lload_n hx hb dX1_sum_34 rfl (lv_at hl 1 rfl) ?_
          refine lv_goto (tgt := 39) hx hb dX1_sum_35 (by decide) ?_
          simp only [sX1_sum_j1, if_neg h3] at K3
          exact K3 ls (lv_sub hl [0, 1, 2] rfl)
      refine lv_lstore (lv' := [(5, .long (sX1_sum_j1 n v w)), (0, .ref h0), (1, .long v), (3, .long w)]) hx hb dX1_sum_39 hl (by decide) rfl (fun ls hl => ?_)
      refine lv_aload_n hx hb dX1_sum_41 rfl (lv_at hl 1 rfl) ?_
      refine lv_lload_n hx hb dX1_sum_42 rfl (lv_at hl 2 rfl) ?_
      refine p_V (C := RX1) (rest := []) hx hb hml hown hts (m_X1_size l D h0 n v) q243 q244 q245 q24 q246 rfl nX1_size ⟨Nat.le_of_ble_eq_true rfl, Nat.le_of_ble_eq_true rfl⟩ hl.1 rfl rfl (Nat.le_of_ble_eq_true rfl) dX1_sum_43 ⟨Nat.zero_le _, Nat.zero_le _⟩ soPS_bl (va_recv hK hP (ci := 2) (q0 := 0) rfl rfl) (soPS_go hP hK hA) ?_
      refine lv_aload_n hx hb dX1_sum_46 rfl (lv_at hl 1 rfl) ?_
      refine lv_lload_n hx hb dX1_sum_47 rfl (lv_at hl 3 rfl) ?_
      refine p_V (C := RX1) (rest := [.long (sX1_size n v)]) hx hb hml hown hts (m_X1_size l D h0 n w) q243 q244 q245 q24 q246 rfl nX1_size ⟨Nat.le_of_ble_eq_true rfl, Nat.le_of_ble_eq_true rfl⟩ hl.1 rfl rfl (Nat.le_of_ble_eq_true rfl) dX1_sum_48 ⟨Nat.zero_le _, Nat.zero_le _⟩ soPS_bl (va_recv hK hP (ci := 2) (q0 := 0) rfl rfl) (soPS_go hP hK hA) ?_
      refine p_join (J := 60) (nL := 16) (st := [.long (sX1_sum_j2 n v w)]) (lv := [(5, .long (sX1_sum_j1 n v w)), (0, .ref h0), (1, .long v), (3, .long w)]) (fun ls hl => ?_) (fun K4 => ?_)
      rotate_left
      · refine c_lcmp_lt (tgt := 59) hx hb dX1_sum_51 dX1_sum_52 (by decide) (fun h4 => ?_) (fun h4 => ?_)
        · skip
          refine lv_lload_n hx hb dX1_sum_59 rfl (lv_at hl 2 rfl) ?_
          simp only [sX1_sum_j2, if_pos h4] at K4
          exact K4 ls (lv_sub hl [0, 1, 2, 3] rfl)
        · skip
          refine lv_lload_n hx hb dX1_sum_55 rfl (lv_at hl 3 rfl) ?_
          refine lv_goto (tgt := 60) hx hb dX1_sum_56 (by decide) ?_
          simp only [sX1_sum_j2, if_neg h4] at K4
          exact K4 ls (lv_sub hl [0, 1, 2, 3] rfl)
      refine lv_lstore (lv' := [(7, .long (sX1_sum_j2 n v w)), (5, .long (sX1_sum_j1 n v w)), (0, .ref h0), (1, .long v), (3, .long w)]) hx hb dX1_sum_60 hl (by decide) rfl (fun ls hl => ?_)
      refine lv_aload_n hx hb dX1_sum_62 rfl (lv_at hl 2 rfl) ?_
      refine lv_lload hx hb dX1_sum_63 (lv_at hl 1 rfl) ?_
      refine p_V (C := RX1) (rest := []) hx hb hml hown hts (m_X1_significand l D h0 n (sX1_sum_j1 n v w)) q273 q275 q4 q24 q276 rfl nX1_significand ⟨Nat.le_of_ble_eq_true rfl, Nat.le_of_ble_eq_true rfl⟩ hl.1 rfl rfl (Nat.le_of_ble_eq_true rfl) dX1_sum_65 ⟨Nat.zero_le _, Nat.zero_le _⟩ soPS_bl (va_recv hK hP (ci := 2) (q0 := 0) rfl rfl) (soPS_go hP hK hA) ?_
      refine lv_iconst (v := 3) hx hb dX1_sum_68 (by decide) ?_
      refine lv_lshl hx hb dX1_sum_69 rfl ?_
      refine p_top (w := .long (sX1_sum_e3 n v w)) rfl ?_
      refine lv_lstore (lv' := [(9, .long (sX1_sum_e3 n v w)), (7, .long (sX1_sum_j2 n v w)), (5, .long (sX1_sum_j1 n v w)), (0, .ref h0), (1, .long v), (3, .long w)]) hx hb dX1_sum_70 hl (by decide) rfl (fun ls hl => ?_)
      refine lv_aload_n hx hb dX1_sum_72 rfl (lv_at hl 3 rfl) ?_
      refine lv_lload hx hb dX1_sum_73 (lv_at hl 1 rfl) ?_
      refine p_V (C := RX1) (rest := []) hx hb hml hown hts (m_X1_significand l D h0 n (sX1_sum_j2 n v w)) q273 q275 q4 q24 q276 rfl nX1_significand ⟨Nat.le_of_ble_eq_true rfl, Nat.le_of_ble_eq_true rfl⟩ hl.1 rfl rfl (Nat.le_of_ble_eq_true rfl) dX1_sum_75 ⟨Nat.zero_le _, Nat.zero_le _⟩ soPS_bl (va_recv hK hP (ci := 2) (q0 := 0) rfl rfl) (soPS_go hP hK hA) ?_
      refine lv_iconst (v := 3) hx hb dX1_sum_78 (by decide) ?_
      refine lv_lshl hx hb dX1_sum_79 rfl ?_
      refine lv_aload_n hx hb dX1_sum_80 rfl (lv_at hl 3 rfl) ?_
      refine lv_lload hx hb dX1_sum_81 (lv_at hl 2 rfl) ?_
      refine p_V (C := RX1) (rest := [.long ((sX1_significand n (sX1_sum_j2 n v w)) <<< ((3 : Int32).toInt64 &&& 63))]) hx hb hml hown hts (m_X1_exponent l D h0 n (sX1_sum_j1 n v w)) q277 q279 q5 q24 q280 rfl nX1_exponent ⟨Nat.le_of_ble_eq_true rfl, Nat.le_of_ble_eq_true rfl⟩ hl.1 rfl rfl (Nat.le_of_ble_eq_true rfl) dX1_sum_83 ⟨Nat.zero_le _, Nat.zero_le _⟩ soPS_bl (va_recv hK hP (ci := 2) (q0 := 0) rfl rfl) (soPS_go hP hK hA) ?_
      refine lv_aload_n hx hb dX1_sum_86 rfl (lv_at hl 3 rfl) ?_
      refine lv_lload hx hb dX1_sum_87 (lv_at hl 1 rfl) ?_
      refine p_V (C := RX1) (rest := [.int (sX1_exponent n (sX1_sum_j1 n v w)), .long ((sX1_significand n (sX1_sum_j2 n v w)) <<< ((3 : Int32).toInt64 &&& 63))]) hx hb hml hown hts (m_X1_exponent l D h0 n (sX1_sum_j2 n v w)) q277 q279 q5 q24 q280 rfl nX1_exponent ⟨Nat.le_of_ble_eq_true rfl, Nat.le_of_ble_eq_true rfl⟩ hl.1 rfl rfl (Nat.le_of_ble_eq_true rfl) dX1_sum_89 ⟨Nat.zero_le _, Nat.zero_le _⟩ soPS_bl (va_recv hK hP (ci := 2) (q0 := 0) rfl rfl) (soPS_go hP hK hA) ?_
      refine lv_isub hx hb dX1_sum_92 ?_
      refine p_S (rest := []) hx hb hml hown hts (m_X1_shiftedDown l ((sX1_significand n (sX1_sum_j2 n v w)) <<< ((3 : Int32).toInt64 &&& 63)) ((sX1_exponent n (sX1_sum_j1 n v w)) - (sX1_exponent n (sX1_sum_j2 n v w)))) q281 q282 q24 q283 nX1_shiftedDown ⟨Nat.le_of_ble_eq_true rfl, Nat.le_of_ble_eq_true rfl⟩ hl.1 rfl rfl (Nat.le_of_ble_eq_true rfl) dX1_sum_93 ⟨Nat.zero_le _, Nat.zero_le _⟩ blind_c (fun _ _ _ => trivial) ?_
      refine p_top (w := .long (sX1_sum_e4 n v w)) rfl ?_
      refine lv_lstore (lv' := [(11, .long (sX1_sum_e4 n v w)), (9, .long (sX1_sum_e3 n v w)), (7, .long (sX1_sum_j2 n v w)), (5, .long (sX1_sum_j1 n v w)), (0, .ref h0), (1, .long v), (3, .long w)]) hx hb dX1_sum_96 hl (by decide) rfl (fun ls hl => ?_)
      refine lv_lload_n hx hb dX1_sum_98 rfl (lv_at hl 5 rfl) ?_
      refine lv_lconst (v := 0) hx hb dX1_sum_99 (by decide) ?_
      refine p_join (J := 109) (nL := 16) (st := [.int (sX1_sum_j5 n v w)]) (lv := [(11, .long (sX1_sum_e4 n v w)), (9, .long (sX1_sum_e3 n v w)), (7, .long (sX1_sum_j2 n v w)), (5, .long (sX1_sum_j1 n v w)), (0, .ref h0), (1, .long v), (3, .long w)]) (fun ls hl => ?_) (fun K5 => ?_)
      rotate_left
      · refine c_lcmp_ge (tgt := 108) hx hb dX1_sum_100 dX1_sum_101 (by decide) (fun h5 => ?_) (fun h5 => ?_)
        · skip
          refine lv_iconst (v := 0) hx hb dX1_sum_108 (by decide) ?_
          simp only [sX1_sum_j5, if_neg h5] at K5
          exact K5 ls (lv_sub hl [0, 1, 2, 3, 4, 5, 6] rfl)
        · skip
          refine lv_iconst (v := 1) hx hb dX1_sum_104 (by decide) ?_
          refine lv_goto (tgt := 109) hx hb dX1_sum_105 (by decide) ?_
          simp only [sX1_sum_j5, if_pos h5] at K5
          exact K5 ls (lv_sub hl [0, 1, 2, 3, 4, 5, 6] rfl)
      refine lv_lload_n hx hb dX1_sum_109 rfl (lv_at hl 6 rfl) ?_
      refine lv_lconst (v := 0) hx hb dX1_sum_110 (by decide) ?_
      refine p_join (J := 120) (nL := 16) (st := [.int (sX1_sum_j6 n v w), .int (sX1_sum_j5 n v w)]) (lv := [(11, .long (sX1_sum_e4 n v w)), (9, .long (sX1_sum_e3 n v w)), (7, .long (sX1_sum_j2 n v w)), (5, .long (sX1_sum_j1 n v w)), (0, .ref h0), (1, .long v), (3, .long w)]) (fun ls hl => ?_) (fun K6 => ?_)
      rotate_left
      · refine c_lcmp_ge (tgt := 119) hx hb dX1_sum_111 dX1_sum_112 (by decide) (fun h6 => ?_) (fun h6 => ?_)
        · skip
          refine lv_iconst (v := 0) hx hb dX1_sum_119 (by decide) ?_
          simp only [sX1_sum_j6, if_neg h6] at K6
          exact K6 ls (lv_sub hl [0, 1, 2, 3, 4, 5, 6] rfl)
        · skip
          refine lv_iconst (v := 1) hx hb dX1_sum_115 (by decide) ?_
          refine lv_goto (tgt := 120) hx hb dX1_sum_116 (by decide) ?_
          simp only [sX1_sum_j6, if_pos h6] at K6
          exact K6 ls (lv_sub hl [0, 1, 2, 3, 4, 5, 6] rfl)
      refine p_join (J := 128) (nL := 16) (st := [.int (sX1_sum_j7 n v w)]) (lv := [(11, .long (sX1_sum_e4 n v w)), (9, .long (sX1_sum_e3 n v w)), (7, .long (sX1_sum_j2 n v w)), (5, .long (sX1_sum_j1 n v w)), (0, .ref h0), (1, .long v), (3, .long w)]) (fun ls hl => ?_) (fun K7 => ?_)
      rotate_left
      · refine c_icmp_ne (tgt := 127) hx hb dX1_sum_120 (by decide) (fun h7 => ?_) (fun h7 => ?_)
        · skip
          refine lv_iconst (v := 0) hx hb dX1_sum_127 (by decide) ?_
          simp only [sX1_sum_j7, if_neg h7] at K7
          exact K7 ls (lv_sub hl [0, 1, 2, 3, 4, 5, 6] rfl)
        · skip
          refine lv_iconst (v := 1) hx hb dX1_sum_123 (by decide) ?_
          refine lv_goto (tgt := 128) hx hb dX1_sum_124 (by decide) ?_
          simp only [sX1_sum_j7, if_pos h7] at K7
          exact K7 ls (lv_sub hl [0, 1, 2, 3, 4, 5, 6] rfl)
      refine lv_istore (lv' := [(13, .int (sX1_sum_j7 n v w)), (11, .long (sX1_sum_e4 n v w)), (9, .long (sX1_sum_e3 n v w)), (7, .long (sX1_sum_j2 n v w)), (5, .long (sX1_sum_j1 n v w)), (0, .ref h0), (1, .long v), (3, .long w)]) hx hb dX1_sum_128 hl (by decide) rfl (fun ls hl => ?_)
      refine lv_iload hx hb dX1_sum_130 (lv_at hl 0 rfl) ?_
      refine p_join (J := 148) (nL := 16) (st := [.long (sX1_sum_j8 n v w)]) (lv := [(13, .int (sX1_sum_j7 n v w)), (11, .long (sX1_sum_e4 n v w)), (9, .long (sX1_sum_e3 n v w)), (7, .long (sX1_sum_j2 n v w)), (5, .long (sX1_sum_j1 n v w)), (0, .ref h0), (1, .long v), (3, .long w)]) (fun ls hl => ?_) (fun K8 => ?_)
      rotate_left
      · refine c_if_eq (tgt := 143) hx hb dX1_sum_132 (by decide) (fun h8 => ?_) (fun h8 => ?_)
        · skip
          refine lv_lload hx hb dX1_sum_143 (lv_at hl 2 rfl) ?_
          refine lv_lload hx hb dX1_sum_145 (lv_at hl 1 rfl) ?_
          refine lv_lsub hx hb dX1_sum_147 ?_
          simp only [sX1_sum_j8, if_pos h8] at K8
          exact K8 ls (lv_sub hl [0, 1, 2, 3, 4, 5, 6, 7] rfl)
        · skip
          refine lv_lload hx hb dX1_sum_135 (lv_at hl 2 rfl) ?_
          refine lv_lload hx hb dX1_sum_137 (lv_at hl 1 rfl) ?_
          refine lv_ladd hx hb dX1_sum_139 ?_
          refine lv_goto (tgt := 148) hx hb dX1_sum_140 (by decide) ?_
          simp only [sX1_sum_j8, if_neg h8] at K8
          exact K8 ls (lv_sub hl [0, 1, 2, 3, 4, 5, 6, 7] rfl)
      refine lv_lstore (lv' := [(14, .long (sX1_sum_j8 n v w)), (13, .int (sX1_sum_j7 n v w)), (11, .long (sX1_sum_e4 n v w)), (9, .long (sX1_sum_e3 n v w)), (7, .long (sX1_sum_j2 n v w)), (5, .long (sX1_sum_j1 n v w)), (0, .ref h0), (1, .long v), (3, .long w)]) hx hb dX1_sum_148 hl (by decide) rfl (fun ls hl => ?_)
      refine lv_lload hx hb dX1_sum_150 (lv_at hl 0 rfl) ?_
      refine lv_lconst (v := 0) hx hb dX1_sum_152 (by decide) ?_
      refine c_lcmp_ne (tgt := 166) hx hb dX1_sum_153 dX1_sum_154 (by decide) (fun h9 => ?_) (fun h9 => ?_)
      · skip
        refine lv_aload_n hx hb dX1_sum_166 rfl (lv_at hl 6 rfl) ?_
        refine lv_lload hx hb dX1_sum_167 (lv_at hl 0 rfl) ?_
        refine lv_aload_n hx hb dX1_sum_169 rfl (lv_at hl 6 rfl) ?_
        refine lv_lload hx hb dX1_sum_170 (lv_at hl 5 rfl) ?_
        refine p_V (C := RX1) (rest := [.long (sX1_sum_j8 n v w), .ref h0]) hx hb hml hown hts (m_X1_exponent l D h0 n (sX1_sum_j1 n v w)) q277 q279 q5 q24 q280 rfl nX1_exponent ⟨Nat.le_of_ble_eq_true rfl, Nat.le_of_ble_eq_true rfl⟩ hl.1 rfl rfl (Nat.le_of_ble_eq_true rfl) dX1_sum_172 ⟨Nat.zero_le _, Nat.zero_le _⟩ soPS_bl (va_recv hK hP (ci := 2) (q0 := 0) rfl rfl) (soPS_go hP hK hA) ?_
        refine lv_lload hx hb dX1_sum_175 (lv_at hl 5 rfl) ?_
        refine lv_lconst (v := 0) hx hb dX1_sum_177 (by decide) ?_
        refine p_join (J := 187) (nL := 16) (st := [.int (sX1_sum_j9 n v w), .int (sX1_exponent n (sX1_sum_j1 n v w)), .long (sX1_sum_j8 n v w), .ref h0]) (lv := [(14, .long (sX1_sum_j8 n v w)), (13, .int (sX1_sum_j7 n v w)), (11, .long (sX1_sum_e4 n v w)), (9, .long (sX1_sum_e3 n v w)), (7, .long (sX1_sum_j2 n v w)), (5, .long (sX1_sum_j1 n v w)), (0, .ref h0), (1, .long v), (3, .long w)]) (fun ls hl => ?_) (fun K10 => ?_)
        rotate_left
        · refine c_lcmp_ge (tgt := 186) hx hb dX1_sum_178 dX1_sum_179 (by decide) (fun h10 => ?_) (fun h10 => ?_)
          · skip
            refine lv_iconst (v := 0) hx hb dX1_sum_186 (by decide) ?_
            simp only [sX1_sum_j9, if_neg h10] at K10
            exact K10 ls (lv_sub hl [0, 1, 2, 3, 4, 5, 6, 7, 8] rfl)
          · skip
            refine lv_iconst (v := 1) hx hb dX1_sum_182 (by decide) ?_
            refine lv_goto (tgt := 187) hx hb dX1_sum_183 (by decide) ?_
            simp only [sX1_sum_j9, if_pos h10] at K10
            exact K10 ls (lv_sub hl [0, 1, 2, 3, 4, 5, 6, 7, 8] rfl)
        refine p_V (C := RX1) (rest := []) hx hb hml hown hts (m_X1_rounded l D h0 n (sX1_sum_j8 n v w) (sX1_exponent n (sX1_sum_j1 n v w)) (sX1_sum_j9 n v w)) q284 q286 q6 q24 q287 rfl nX1_rounded ⟨Nat.le_of_ble_eq_true rfl, Nat.le_of_ble_eq_true rfl⟩ hl.1 rfl rfl (Nat.le_of_ble_eq_true rfl) dX1_sum_187 ⟨Nat.zero_le _, Nat.zero_le _⟩ soPS_bl (va_recv hK hP (ci := 2) (q0 := 0) rfl rfl) (soPS_go hP hK hA) ?_
        exact W.lret hx hb hr (fun t ht hW => pq_l (by rw [sX1_sum, if_pos h1, if_pos h2, if_neg h9]) ht) nil_free dX1_sum_190
      · skip
        refine lv_lload_n hx hb dX1_sum_157 rfl (lv_at hl 7 rfl) ?_
        refine lv_lload_n hx hb dX1_sum_158 rfl (lv_at hl 8 rfl) ?_
        refine lv_land hx hb dX1_sum_159 ?_
        refine lv_aload_n hx hb dX1_sum_160 rfl (lv_at hl 6 rfl) ?_
        refine va_get (v := .long (psSB n)) (C := RX1) (T := TX1) (N := 9) (ci := 2) hx hb hts inX1 hown hK hP 0 rfl rfl 3 (by decide) (hts _ q69) (fun _ h => h) rfl dX1_sum_161 ?_
        refine lv_land hx hb dX1_sum_164 ?_
        exact W.lret hx hb hr (fun t ht hW => pq_l (by rw [sX1_sum, if_pos h1, if_pos h2, if_pos h9]) ht) nil_free dX1_sum_165
    · skip
      refine lv_lload_n hx hb dX1_sum_18 rfl (lv_at hl 2 rfl) ?_
      exact W.lret hx hb hr (fun t ht hW => pq_l (by rw [sX1_sum, if_pos h1, if_neg h2]) ht) nil_free dX1_sum_19
  · skip
    refine lv_lload_n hx hb dX1_sum_8 rfl (lv_at hl 1 rfl) ?_
    exact W.lret hx hb hr (fun t ht hW => pq_l (by rw [sX1_sum, if_neg h1]) ht) nil_free dX1_sum_9
def sX1_scaled_j1 (n : Bool) (v : Int64) (k : Int32) : Int32 := (if v < (0 : Int64) then (1 : Int32) else (0 : Int32))
def sX1_scaled (n : Bool) (v : Int64) (k : Int32) : Int64 := if (sX1_size n v) = (0 : Int64) then v else if (sX1_isInfinite n v) = 0 then (sX1_rounded n ((sX1_significand n v) <<< ((3 : Int32).toInt64 &&& 63)) ((sX1_exponent n v) + k) (sX1_scaled_j1 n v k)) else v
theorem nX1_scaled : yX1_scaled.cls ≠ "java/lang/invoke/MethodHandle" ∧ yX1_scaled.cls ≠ "java/lang/invoke/VarHandle" ∧ (parseMethodDescriptor yX1_scaled.desc).map (fun d => d.parameters.length) = some 2 := by decide +kernel
set_option maxHeartbeats 4000000 in
set_option maxRecDepth 100000 in
theorem m_X1_scaled (l : Launch) (D : va_G) (h0 : Nat) (n : Bool) (v : Int64) (k : Int32) : PM l yX1_scaled cX1_scaled 4 (some .long) 2 [.ref h0, .long v, .int k] (soPS D h0 n) (.long (sX1_scaled n v k)) := by
  refine Met.ofW (cc := cX1_scaled) (maxL := 4) (ret := (some .long)) (by decide) rfl ?_
  intro p e s m args below meth c s₁ B hml hv
  obtain ⟨rfl, hP, hK, hA⟩ := hv
  have hx := B.exec
  have hb := B.bytes
  have hr := B.returns
  have hts : ∀ w ∈ AW, w.before _ s = true := fun w h => atoms_spec (ws := Cond.code yX1_scaled cX1_scaled 4 (some .long) :: AW) B.pre w (List.mem_cons_of_mem _ h)
  have hown : s.vm.findClass RX1 = some m.cls := findClass_of_methodNamed B.named
  have hlocks := B.notSynchronized
  have hl := lv_entry ([.ref h0, .long v, .int k]) (n := 4) (Nat.le_of_ble_eq_true rfl)
  rw [lg_entry_eq]
  generalize (lg_sl ([.ref h0, .long v, .int k]) ++ List.replicate (4 - (lg_sl ([.ref h0, .long v, .int k])).length) Slot.unset).toArray = ls at hl ⊢
  have hl : lv_has ls 4 [(0, .ref h0), (1, .long v), (3, .int k)] := hl
  refine lv_aload_n hx hb dX1_scaled_0 rfl (lv_at hl 0 rfl) ?_
  refine lv_lload_n hx hb dX1_scaled_1 rfl (lv_at hl 1 rfl) ?_
  refine p_V (C := RX1) (rest := []) hx hb hml hown hts (m_X1_size l D h0 n v) q243 q244 q245 q24 q246 rfl nX1_size ⟨Nat.le_of_ble_eq_true rfl, Nat.le_of_ble_eq_true rfl⟩ hl.1 rfl rfl (Nat.le_of_ble_eq_true rfl) dX1_scaled_2 ⟨Nat.zero_le _, Nat.zero_le _⟩ soPS_bl (va_recv hK hP (ci := 2) (q0 := 0) rfl rfl) (soPS_go hP hK hA) ?_
  refine lv_lconst (v := 0) hx hb dX1_scaled_5 (by decide) ?_
  refine c_lcmp_eq (tgt := 18) hx hb dX1_scaled_6 dX1_scaled_7 (by decide) (fun h1 => ?_) (fun h1 => ?_)
  · skip
    refine lv_lload_n hx hb dX1_scaled_18 rfl (lv_at hl 1 rfl) ?_
    exact W.lret hx hb hr (fun t ht hW => pq_l (by rw [sX1_scaled, if_pos h1]) ht) nil_free dX1_scaled_19
  · skip
    refine lv_aload_n hx hb dX1_scaled_10 rfl (lv_at hl 0 rfl) ?_
    refine lv_lload_n hx hb dX1_scaled_11 rfl (lv_at hl 1 rfl) ?_
    refine p_V (C := RX1) (rest := []) hx hb hml hown hts (m_X1_isInfinite l D h0 n v) q261 q263 q2 q24 q264 rfl nX1_isInfinite ⟨Nat.le_of_ble_eq_true rfl, Nat.le_of_ble_eq_true rfl⟩ hl.1 rfl rfl (Nat.le_of_ble_eq_true rfl) dX1_scaled_12 ⟨Nat.zero_le _, Nat.zero_le _⟩ soPS_bl (va_recv hK hP (ci := 2) (q0 := 0) rfl rfl) (soPS_go hP hK hA) ?_
    refine c_if_eq (tgt := 20) hx hb dX1_scaled_15 (by decide) (fun h2 => ?_) (fun h2 => ?_)
    · skip
      refine lv_aload_n hx hb dX1_scaled_20 rfl (lv_at hl 0 rfl) ?_
      refine lv_aload_n hx hb dX1_scaled_21 rfl (lv_at hl 0 rfl) ?_
      refine lv_lload_n hx hb dX1_scaled_22 rfl (lv_at hl 1 rfl) ?_
      refine p_V (C := RX1) (rest := [.ref h0]) hx hb hml hown hts (m_X1_significand l D h0 n v) q273 q275 q4 q24 q276 rfl nX1_significand ⟨Nat.le_of_ble_eq_true rfl, Nat.le_of_ble_eq_true rfl⟩ hl.1 rfl rfl (Nat.le_of_ble_eq_true rfl) dX1_scaled_23 ⟨Nat.zero_le _, Nat.zero_le _⟩ soPS_bl (va_recv hK hP (ci := 2) (q0 := 0) rfl rfl) (soPS_go hP hK hA) ?_
      refine lv_iconst (v := 3) hx hb dX1_scaled_26 (by decide) ?_
      refine lv_lshl hx hb dX1_scaled_27 rfl ?_
      refine lv_aload_n hx hb dX1_scaled_28 rfl (lv_at hl 0 rfl) ?_
      refine lv_lload_n hx hb dX1_scaled_29 rfl (lv_at hl 1 rfl) ?_
      refine p_V (C := RX1) (rest := [.long ((sX1_significand n v) <<< ((3 : Int32).toInt64 &&& 63)), .ref h0]) hx hb hml hown hts (m_X1_exponent l D h0 n v) q277 q279 q5 q24 q280 rfl nX1_exponent ⟨Nat.le_of_ble_eq_true rfl, Nat.le_of_ble_eq_true rfl⟩ hl.1 rfl rfl (Nat.le_of_ble_eq_true rfl) dX1_scaled_30 ⟨Nat.zero_le _, Nat.zero_le _⟩ soPS_bl (va_recv hK hP (ci := 2) (q0 := 0) rfl rfl) (soPS_go hP hK hA) ?_
      refine lv_iload_n hx hb dX1_scaled_33 rfl (lv_at hl 2 rfl) ?_
      refine lv_iadd hx hb dX1_scaled_34 ?_
      refine lv_lload_n hx hb dX1_scaled_35 rfl (lv_at hl 1 rfl) ?_
      refine lv_lconst (v := 0) hx hb dX1_scaled_36 (by decide) ?_
      refine p_join (J := 46) (nL := 4) (st := [.int (sX1_scaled_j1 n v k), .int ((sX1_exponent n v) + k), .long ((sX1_significand n v) <<< ((3 : Int32).toInt64 &&& 63)), .ref h0]) (lv := [(0, .ref h0), (1, .long v), (3, .int k)]) (fun ls hl => ?_) (fun K3 => ?_)
      rotate_left
      · refine c_lcmp_ge (tgt := 45) hx hb dX1_scaled_37 dX1_scaled_38 (by decide) (fun h3 => ?_) (fun h3 => ?_)
        · skip
          refine lv_iconst (v := 0) hx hb dX1_scaled_45 (by decide) ?_
          simp only [sX1_scaled_j1, if_neg h3] at K3
          exact K3 ls (lv_sub hl [0, 1, 2] rfl)
        · skip
          refine lv_iconst (v := 1) hx hb dX1_scaled_41 (by decide) ?_
          refine lv_goto (tgt := 46) hx hb dX1_scaled_42 (by decide) ?_
          simp only [sX1_scaled_j1, if_pos h3] at K3
          exact K3 ls (lv_sub hl [0, 1, 2] rfl)
      refine p_V (C := RX1) (rest := []) hx hb hml hown hts (m_X1_rounded l D h0 n ((sX1_significand n v) <<< ((3 : Int32).toInt64 &&& 63)) ((sX1_exponent n v) + k) (sX1_scaled_j1 n v k)) q284 q286 q6 q24 q287 rfl nX1_rounded ⟨Nat.le_of_ble_eq_true rfl, Nat.le_of_ble_eq_true rfl⟩ hl.1 rfl rfl (Nat.le_of_ble_eq_true rfl) dX1_scaled_46 ⟨Nat.zero_le _, Nat.zero_le _⟩ soPS_bl (va_recv hK hP (ci := 2) (q0 := 0) rfl rfl) (soPS_go hP hK hA) ?_
      exact W.lret hx hb hr (fun t ht hW => pq_l (by rw [sX1_scaled, if_neg h1, if_pos h2]) ht) nil_free dX1_scaled_49
    · skip
      refine lv_lload_n hx hb dX1_scaled_18 rfl (lv_at hl 1 rfl) ?_
      exact W.lret hx hb hr (fun t ht hW => pq_l (by rw [sX1_scaled, if_neg h1, if_neg h2]) ht) nil_free dX1_scaled_19
def sX1_step (n : Bool) (v : Int64) (k : Int32) : Int64 := (sX1_scaled n (sX1_near n (sX1_scaled n v (-k))) k)
theorem nX1_step : yX1_step.cls ≠ "java/lang/invoke/MethodHandle" ∧ yX1_step.cls ≠ "java/lang/invoke/VarHandle" ∧ (parseMethodDescriptor yX1_step.desc).map (fun d => d.parameters.length) = some 2 := by decide +kernel
set_option maxHeartbeats 4000000 in
set_option maxRecDepth 100000 in
theorem m_X1_step (l : Launch) (D : va_G) (h0 : Nat) (n : Bool) (v : Int64) (k : Int32) : PM l yX1_step cX1_step 4 (some .long) 3 [.ref h0, .long v, .int k] (soPS D h0 n) (.long (sX1_step n v k)) := by
  refine Met.ofW (cc := cX1_step) (maxL := 4) (ret := (some .long)) (by decide) rfl ?_
  intro p e s m args below meth c s₁ B hml hv
  obtain ⟨rfl, hP, hK, hA⟩ := hv
  have hx := B.exec
  have hb := B.bytes
  have hr := B.returns
  have hts : ∀ w ∈ AW, w.before _ s = true := fun w h => atoms_spec (ws := Cond.code yX1_step cX1_step 4 (some .long) :: AW) B.pre w (List.mem_cons_of_mem _ h)
  have hown : s.vm.findClass RX1 = some m.cls := findClass_of_methodNamed B.named
  have hlocks := B.notSynchronized
  have hl := lv_entry ([.ref h0, .long v, .int k]) (n := 4) (Nat.le_of_ble_eq_true rfl)
  rw [lg_entry_eq]
  generalize (lg_sl ([.ref h0, .long v, .int k]) ++ List.replicate (4 - (lg_sl ([.ref h0, .long v, .int k])).length) Slot.unset).toArray = ls at hl ⊢
  have hl : lv_has ls 4 [(0, .ref h0), (1, .long v), (3, .int k)] := hl
  refine lv_aload_n hx hb dX1_step_0 rfl (lv_at hl 0 rfl) ?_
  refine lv_aload_n hx hb dX1_step_1 rfl (lv_at hl 0 rfl) ?_
  refine lv_aload_n hx hb dX1_step_2 rfl (lv_at hl 0 rfl) ?_
  refine lv_lload_n hx hb dX1_step_3 rfl (lv_at hl 1 rfl) ?_
  refine lv_iload_n hx hb dX1_step_4 rfl (lv_at hl 2 rfl) ?_
  refine lv_ineg hx hb dX1_step_5 ?_
  refine p_V (C := RX1) (rest := [.ref h0, .ref h0]) hx hb hml hown hts (m_X1_scaled l D h0 n v (-k)) q493 q495 q15 q24 q496 rfl nX1_scaled ⟨Nat.le_of_ble_eq_true rfl, Nat.le_of_ble_eq_true rfl⟩ hl.1 rfl rfl (Nat.le_of_ble_eq_true rfl) dX1_step_6 ⟨Nat.zero_le _, Nat.zero_le _⟩ soPS_bl (va_recv hK hP (ci := 2) (q0 := 0) rfl rfl) (soPS_go hP hK hA) ?_
  refine p_V (C := RX1) (rest := [.ref h0]) hx hb hml hown hts (m_X1_near l D h0 n (sX1_scaled n v (-k))) q497 q465 q794 q24 q466 rfl nX1_near ⟨Nat.le_of_ble_eq_true rfl, Nat.le_of_ble_eq_true rfl⟩ hl.1 rfl rfl (Nat.le_of_ble_eq_true rfl) dX1_step_9 ⟨Nat.zero_le _, Nat.zero_le _⟩ soPS_bl (va_recv hK hP (ci := 2) (q0 := 0) rfl rfl) (soPS_go hP hK hA) ?_
  refine lv_iload_n hx hb dX1_step_12 rfl (lv_at hl 2 rfl) ?_
  refine p_V (C := RX1) (rest := []) hx hb hml hown hts (m_X1_scaled l D h0 n (sX1_near n (sX1_scaled n v (-k))) k) q493 q495 q15 q24 q496 rfl nX1_scaled ⟨Nat.le_of_ble_eq_true rfl, Nat.le_of_ble_eq_true rfl⟩ hl.1 rfl rfl (Nat.le_of_ble_eq_true rfl) dX1_step_13 ⟨Nat.zero_le _, Nat.zero_le _⟩ soPS_bl (va_recv hK hP (ci := 2) (q0 := 0) rfl rfl) (soPS_go hP hK hA) ?_
  exact W.lret hx hb hr (fun t ht hW => pq_l (rfl) ht) nil_free dX1_step_16
def sX1_meet (n : Bool) (v : Int64) (w : Int64) : Int64 := (sX1_scaled n (sX1_sum n v w) (-1 : Int32))
theorem nX1_meet : yX1_meet.cls ≠ "java/lang/invoke/MethodHandle" ∧ yX1_meet.cls ≠ "java/lang/invoke/VarHandle" ∧ (parseMethodDescriptor yX1_meet.desc).map (fun d => d.parameters.length) = some 2 := by decide +kernel
set_option maxHeartbeats 4000000 in
set_option maxRecDepth 100000 in
theorem m_X1_meet (l : Launch) (D : va_G) (h0 : Nat) (n : Bool) (v : Int64) (w : Int64) : PM l yX1_meet cX1_meet 5 (some .long) 3 [.ref h0, .long v, .long w] (soPS D h0 n) (.long (sX1_meet n v w)) := by
  refine Met.ofW (cc := cX1_meet) (maxL := 5) (ret := (some .long)) (by decide) rfl ?_
  intro p e s m args below meth c s₁ B hml hv
  obtain ⟨rfl, hP, hK, hA⟩ := hv
  have hx := B.exec
  have hb := B.bytes
  have hr := B.returns
  have hts : ∀ w ∈ AW, w.before _ s = true := fun w h => atoms_spec (ws := Cond.code yX1_meet cX1_meet 5 (some .long) :: AW) B.pre w (List.mem_cons_of_mem _ h)
  have hown : s.vm.findClass RX1 = some m.cls := findClass_of_methodNamed B.named
  have hlocks := B.notSynchronized
  have hl := lv_entry ([.ref h0, .long v, .long w]) (n := 5) (Nat.le_of_ble_eq_true rfl)
  rw [lg_entry_eq]
  generalize (lg_sl ([.ref h0, .long v, .long w]) ++ List.replicate (5 - (lg_sl ([.ref h0, .long v, .long w])).length) Slot.unset).toArray = ls at hl ⊢
  have hl : lv_has ls 5 [(0, .ref h0), (1, .long v), (3, .long w)] := hl
  refine lv_aload_n hx hb dX1_meet_0 rfl (lv_at hl 0 rfl) ?_
  refine lv_aload_n hx hb dX1_meet_1 rfl (lv_at hl 0 rfl) ?_
  refine lv_lload_n hx hb dX1_meet_2 rfl (lv_at hl 1 rfl) ?_
  refine lv_lload_n hx hb dX1_meet_3 rfl (lv_at hl 2 rfl) ?_
  refine p_V (C := RX1) (rest := [.ref h0]) hx hb hml hown hts (m_X1_sum l D h0 n v w) q269 q271 q3 q24 q272 rfl nX1_sum ⟨Nat.le_of_ble_eq_true rfl, Nat.le_of_ble_eq_true rfl⟩ hl.1 rfl rfl (Nat.le_of_ble_eq_true rfl) dX1_meet_4 ⟨Nat.zero_le _, Nat.zero_le _⟩ soPS_bl (va_recv hK hP (ci := 2) (q0 := 0) rfl rfl) (soPS_go hP hK hA) ?_
  refine lv_iconst (v := -1) hx hb dX1_meet_7 (by decide) ?_
  refine p_V (C := RX1) (rest := []) hx hb hml hown hts (m_X1_scaled l D h0 n (sX1_sum n v w) (-1 : Int32)) q493 q495 q15 q24 q496 rfl nX1_scaled ⟨Nat.le_of_ble_eq_true rfl, Nat.le_of_ble_eq_true rfl⟩ hl.1 rfl rfl (Nat.le_of_ble_eq_true rfl) dX1_meet_8 ⟨Nat.zero_le _, Nat.zero_le _⟩ soPS_bl (va_recv hK hP (ci := 2) (q0 := 0) rfl rfl) (soPS_go hP hK hA) ?_
  exact W.lret hx hb hr (fun t ht hW => pq_l (rfl) ht) nil_free dX1_meet_11
def sX1_part_j1 (n : Bool) (v : Int64) : Int32 := (if v < (0 : Int64) then (1 : Int32) else (0 : Int32))
def sX1_part (n : Bool) (v : Int64) : Int64 := if (sX1_isInfinite n v) = 0 then (sX1_sum n v (sX1_turn n (sX1_down n v))) else (sX1_withSign n (0 : Int64) (sX1_part_j1 n v))
theorem nX1_part : yX1_part.cls ≠ "java/lang/invoke/MethodHandle" ∧ yX1_part.cls ≠ "java/lang/invoke/VarHandle" ∧ (parseMethodDescriptor yX1_part.desc).map (fun d => d.parameters.length) = some 1 := by decide +kernel
set_option maxHeartbeats 4000000 in
set_option maxRecDepth 100000 in
theorem m_X1_part (l : Launch) (D : va_G) (h0 : Nat) (n : Bool) (v : Int64) : PM l yX1_part cX1_part 3 (some .long) 3 [.ref h0, .long v] (soPS D h0 n) (.long (sX1_part n v)) := by
  refine Met.ofW (cc := cX1_part) (maxL := 3) (ret := (some .long)) (by decide) rfl ?_
  intro p e s m args below meth c s₁ B hml hv
  obtain ⟨rfl, hP, hK, hA⟩ := hv
  have hx := B.exec
  have hb := B.bytes
  have hr := B.returns
  have hts : ∀ w ∈ AW, w.before _ s = true := fun w h => atoms_spec (ws := Cond.code yX1_part cX1_part 3 (some .long) :: AW) B.pre w (List.mem_cons_of_mem _ h)
  have hown : s.vm.findClass RX1 = some m.cls := findClass_of_methodNamed B.named
  have hlocks := B.notSynchronized
  have hl := lv_entry ([.ref h0, .long v]) (n := 3) (Nat.le_of_ble_eq_true rfl)
  rw [lg_entry_eq]
  generalize (lg_sl ([.ref h0, .long v]) ++ List.replicate (3 - (lg_sl ([.ref h0, .long v])).length) Slot.unset).toArray = ls at hl ⊢
  have hl : lv_has ls 3 [(0, .ref h0), (1, .long v)] := hl
  refine lv_aload_n hx hb dX1_part_0 rfl (lv_at hl 0 rfl) ?_
  refine lv_lload_n hx hb dX1_part_1 rfl (lv_at hl 1 rfl) ?_
  refine p_V (C := RX1) (rest := []) hx hb hml hown hts (m_X1_isInfinite l D h0 n v) q261 q263 q2 q24 q264 rfl nX1_isInfinite ⟨Nat.le_of_ble_eq_true rfl, Nat.le_of_ble_eq_true rfl⟩ hl.1 rfl rfl (Nat.le_of_ble_eq_true rfl) dX1_part_2 ⟨Nat.zero_le _, Nat.zero_le _⟩ soPS_bl (va_recv hK hP (ci := 2) (q0 := 0) rfl rfl) (soPS_go hP hK hA) ?_
  refine c_if_eq (tgt := 27) hx hb dX1_part_5 (by decide) (fun h1 => ?_) (fun h1 => ?_)
  · skip
    refine lv_aload_n hx hb dX1_part_27 rfl (lv_at hl 0 rfl) ?_
    refine lv_lload_n hx hb dX1_part_28 rfl (lv_at hl 1 rfl) ?_
    refine lv_aload_n hx hb dX1_part_29 rfl (lv_at hl 0 rfl) ?_
    refine lv_aload_n hx hb dX1_part_30 rfl (lv_at hl 0 rfl) ?_
    refine lv_lload_n hx hb dX1_part_31 rfl (lv_at hl 1 rfl) ?_
    refine p_V (C := RX1) (rest := [.ref h0, .long v, .ref h0]) hx hb hml hown hts (m_X1_down l D h0 n v) q521 q435 q795 q24 q436 rfl nX1_down ⟨Nat.le_of_ble_eq_true rfl, Nat.le_of_ble_eq_true rfl⟩ hl.1 rfl rfl (Nat.le_of_ble_eq_true rfl) dX1_part_32 ⟨Nat.zero_le _, Nat.zero_le _⟩ soPS_bl (va_recv hK hP (ci := 2) (q0 := 0) rfl rfl) (soPS_go hP hK hA) ?_
    refine p_V (C := RX1) (rest := [.long v, .ref h0]) hx hb hml hown hts (m_X1_turn l D h0 n (sX1_down n v)) q265 q266 q267 q24 q268 rfl nX1_turn ⟨Nat.le_of_ble_eq_true rfl, Nat.le_of_ble_eq_true rfl⟩ hl.1 rfl rfl (Nat.le_of_ble_eq_true rfl) dX1_part_35 ⟨Nat.zero_le _, Nat.zero_le _⟩ soPS_bl (va_recv hK hP (ci := 2) (q0 := 0) rfl rfl) (soPS_go hP hK hA) ?_
    refine p_V (C := RX1) (rest := []) hx hb hml hown hts (m_X1_sum l D h0 n v (sX1_turn n (sX1_down n v))) q269 q271 q3 q24 q272 rfl nX1_sum ⟨Nat.le_of_ble_eq_true rfl, Nat.le_of_ble_eq_true rfl⟩ hl.1 rfl rfl (Nat.le_of_ble_eq_true rfl) dX1_part_38 ⟨Nat.zero_le _, Nat.zero_le _⟩ soPS_bl (va_recv hK hP (ci := 2) (q0 := 0) rfl rfl) (soPS_go hP hK hA) ?_
    exact W.lret hx hb hr (fun t ht hW => pq_l (by rw [sX1_part, if_pos h1]) ht) nil_free dX1_part_41
  · skip
    refine lv_aload_n hx hb dX1_part_8 rfl (lv_at hl 0 rfl) ?_
    refine lv_lconst (v := 0) hx hb dX1_part_9 (by decide) ?_
    refine lv_lload_n hx hb dX1_part_10 rfl (lv_at hl 1 rfl) ?_
    refine lv_lconst (v := 0) hx hb dX1_part_11 (by decide) ?_
    refine p_join (J := 21) (nL := 3) (st := [.int (sX1_part_j1 n v), .long (0 : Int64), .ref h0]) (lv := [(0, .ref h0), (1, .long v)]) (fun ls hl => ?_) (fun K2 => ?_)
    rotate_left
    · refine c_lcmp_ge (tgt := 20) hx hb dX1_part_12 dX1_part_13 (by decide) (fun h2 => ?_) (fun h2 => ?_)
      · skip
        refine lv_iconst (v := 0) hx hb dX1_part_20 (by decide) ?_
        simp only [sX1_part_j1, if_neg h2] at K2
        exact K2 ls (lv_sub hl [0, 1] rfl)
      · skip
        refine lv_iconst (v := 1) hx hb dX1_part_16 (by decide) ?_
        refine lv_goto (tgt := 21) hx hb dX1_part_17 (by decide) ?_
        simp only [sX1_part_j1, if_pos h2] at K2
        exact K2 ls (lv_sub hl [0, 1] rfl)
    refine p_V (C := RX1) (rest := []) hx hb hml hown hts (m_X1_withSign l D h0 n (0 : Int64) (sX1_part_j1 n v)) q288 q290 q7 q24 q291 rfl nX1_withSign ⟨Nat.le_of_ble_eq_true rfl, Nat.le_of_ble_eq_true rfl⟩ hl.1 rfl rfl (Nat.le_of_ble_eq_true rfl) dX1_part_21 ⟨Nat.zero_le _, Nat.zero_le _⟩ soPS_bl (va_recv hK hP (ci := 2) (q0 := 0) rfl rfl) (soPS_go hP hK hA) ?_
    refine lv_goto (tgt := 41) hx hb dX1_part_24 (by decide) ?_
    exact W.lret hx hb hr (fun t ht hW => pq_l (by rw [sX1_part, if_neg h1]) ht) nil_free dX1_part_41
def sX1_change_j1 (n : Bool) (v : Int64) (w : Int64) : Int32 := (if (sX1_isInfinite n w) = 0 then (0 : Int32) else (if v = w then (1 : Int32) else (0 : Int32)))
def sX1_change (n : Bool) (v : Int64) (w : Int64) : Int64 := if (sX1_change_j1 n v w) = 0 then (sX1_sum n w (sX1_turn n v)) else (0 : Int64)
theorem nX1_change : yX1_change.cls ≠ "java/lang/invoke/MethodHandle" ∧ yX1_change.cls ≠ "java/lang/invoke/VarHandle" ∧ (parseMethodDescriptor yX1_change.desc).map (fun d => d.parameters.length) = some 2 := by decide +kernel
set_option maxHeartbeats 4000000 in
set_option maxRecDepth 100000 in
theorem m_X1_change (l : Launch) (D : va_G) (h0 : Nat) (n : Bool) (v : Int64) (w : Int64) : PM l yX1_change cX1_change 6 (some .long) 3 [.ref h0, .long v, .long w] (soPS D h0 n) (.long (sX1_change n v w)) := by
  refine Met.ofW (cc := cX1_change) (maxL := 6) (ret := (some .long)) (by decide) rfl ?_
  intro p e s m args below meth c s₁ B hml hv
  obtain ⟨rfl, hP, hK, hA⟩ := hv
  have hx := B.exec
  have hb := B.bytes
  have hr := B.returns
  have hts : ∀ w ∈ AW, w.before _ s = true := fun w h => atoms_spec (ws := Cond.code yX1_change cX1_change 6 (some .long) :: AW) B.pre w (List.mem_cons_of_mem _ h)
  have hown : s.vm.findClass RX1 = some m.cls := findClass_of_methodNamed B.named
  have hlocks := B.notSynchronized
  have hl := lv_entry ([.ref h0, .long v, .long w]) (n := 6) (Nat.le_of_ble_eq_true rfl)
  rw [lg_entry_eq]
  generalize (lg_sl ([.ref h0, .long v, .long w]) ++ List.replicate (6 - (lg_sl ([.ref h0, .long v, .long w])).length) Slot.unset).toArray = ls at hl ⊢
  have hl : lv_has ls 6 [(0, .ref h0), (1, .long v), (3, .long w)] := hl
  refine lv_aload_n hx hb dX1_change_0 rfl (lv_at hl 0 rfl) ?_
  refine lv_lload_n hx hb dX1_change_1 rfl (lv_at hl 2 rfl) ?_
  refine p_V (C := RX1) (rest := []) hx hb hml hown hts (m_X1_isInfinite l D h0 n w) q261 q263 q2 q24 q264 rfl nX1_isInfinite ⟨Nat.le_of_ble_eq_true rfl, Nat.le_of_ble_eq_true rfl⟩ hl.1 rfl rfl (Nat.le_of_ble_eq_true rfl) dX1_change_2 ⟨Nat.zero_le _, Nat.zero_le _⟩ soPS_bl (va_recv hK hP (ci := 2) (q0 := 0) rfl rfl) (soPS_go hP hK hA) ?_
  refine p_join (J := 19) (nL := 6) (st := [.int (sX1_change_j1 n v w)]) (lv := [(0, .ref h0), (1, .long v), (3, .long w)]) (fun ls hl => ?_) (fun K1 => ?_)
  rotate_left
  · refine c_if_eq (tgt := 18) hx hb dX1_change_5 (by decide) (fun h1 => ?_) (fun h1 => ?_)
    · skip
      refine lv_iconst (v := 0) hx hb dX1_change_18 (by decide) ?_
      simp only [sX1_change_j1, if_pos h1] at K1
      exact K1 ls (lv_sub hl [0, 1, 2] rfl)
    · skip
      refine lv_lload_n hx hb dX1_change_8 rfl (lv_at hl 1 rfl) ?_
      refine lv_lload_n hx hb dX1_change_9 rfl (lv_at hl 2 rfl) ?_
      refine c_lcmp_ne (tgt := 18) hx hb dX1_change_10 dX1_change_11 (by decide) (fun h2 => ?_) (fun h2 => ?_)
      · skip
        refine lv_iconst (v := 0) hx hb dX1_change_18 (by decide) ?_
        simp only [sX1_change_j1, if_neg h1, if_neg h2] at K1
        exact K1 ls (lv_sub hl [0, 1, 2] rfl)
      · skip
        refine lv_iconst (v := 1) hx hb dX1_change_14 (by decide) ?_
        refine lv_goto (tgt := 19) hx hb dX1_change_15 (by decide) ?_
        simp only [sX1_change_j1, if_neg h1, if_pos h2] at K1
        exact K1 ls (lv_sub hl [0, 1, 2] rfl)
  refine lv_istore (lv' := [(5, .int (sX1_change_j1 n v w)), (0, .ref h0), (1, .long v), (3, .long w)]) hx hb dX1_change_19 hl (by decide) rfl (fun ls hl => ?_)
  refine lv_iload hx hb dX1_change_21 (lv_at hl 0 rfl) ?_
  refine c_if_eq (tgt := 30) hx hb dX1_change_23 (by decide) (fun h3 => ?_) (fun h3 => ?_)
  · skip
    refine lv_aload_n hx hb dX1_change_30 rfl (lv_at hl 1 rfl) ?_
    refine lv_lload_n hx hb dX1_change_31 rfl (lv_at hl 3 rfl) ?_
    refine lv_aload_n hx hb dX1_change_32 rfl (lv_at hl 1 rfl) ?_
    refine lv_lload_n hx hb dX1_change_33 rfl (lv_at hl 2 rfl) ?_
    refine p_V (C := RX1) (rest := [.long w, .ref h0]) hx hb hml hown hts (m_X1_turn l D h0 n v) q265 q266 q267 q24 q268 rfl nX1_turn ⟨Nat.le_of_ble_eq_true rfl, Nat.le_of_ble_eq_true rfl⟩ hl.1 rfl rfl (Nat.le_of_ble_eq_true rfl) dX1_change_34 ⟨Nat.zero_le _, Nat.zero_le _⟩ soPS_bl (va_recv hK hP (ci := 2) (q0 := 0) rfl rfl) (soPS_go hP hK hA) ?_
    refine p_V (C := RX1) (rest := []) hx hb hml hown hts (m_X1_sum l D h0 n w (sX1_turn n v)) q269 q271 q3 q24 q272 rfl nX1_sum ⟨Nat.le_of_ble_eq_true rfl, Nat.le_of_ble_eq_true rfl⟩ hl.1 rfl rfl (Nat.le_of_ble_eq_true rfl) dX1_change_37 ⟨Nat.zero_le _, Nat.zero_le _⟩ soPS_bl (va_recv hK hP (ci := 2) (q0 := 0) rfl rfl) (soPS_go hP hK hA) ?_
    exact W.lret hx hb hr (fun t ht hW => pq_l (by rw [sX1_change, if_pos h3]) ht) nil_free dX1_change_40
  · skip
    refine lv_lconst (v := 0) hx hb dX1_change_26 (by decide) ?_
    refine lv_goto (tgt := 40) hx hb dX1_change_27 (by decide) ?_
    exact W.lret hx hb hr (fun t ht hW => pq_l (by rw [sX1_change, if_neg h3]) ht) nil_free dX1_change_40
def sX1_withHalf (n : Bool) (v : Int64) (w : Int64) : Int64 := (sX1_sum n v (sX1_scaled n w (-1 : Int32)))
theorem nX1_withHalf : yX1_withHalf.cls ≠ "java/lang/invoke/MethodHandle" ∧ yX1_withHalf.cls ≠ "java/lang/invoke/VarHandle" ∧ (parseMethodDescriptor yX1_withHalf.desc).map (fun d => d.parameters.length) = some 2 := by decide +kernel
set_option maxHeartbeats 4000000 in
set_option maxRecDepth 100000 in
theorem m_X1_withHalf (l : Launch) (D : va_G) (h0 : Nat) (n : Bool) (v : Int64) (w : Int64) : PM l yX1_withHalf cX1_withHalf 5 (some .long) 3 [.ref h0, .long v, .long w] (soPS D h0 n) (.long (sX1_withHalf n v w)) := by
  refine Met.ofW (cc := cX1_withHalf) (maxL := 5) (ret := (some .long)) (by decide) rfl ?_
  intro p e s m args below meth c s₁ B hml hv
  obtain ⟨rfl, hP, hK, hA⟩ := hv
  have hx := B.exec
  have hb := B.bytes
  have hr := B.returns
  have hts : ∀ w ∈ AW, w.before _ s = true := fun w h => atoms_spec (ws := Cond.code yX1_withHalf cX1_withHalf 5 (some .long) :: AW) B.pre w (List.mem_cons_of_mem _ h)
  have hown : s.vm.findClass RX1 = some m.cls := findClass_of_methodNamed B.named
  have hlocks := B.notSynchronized
  have hl := lv_entry ([.ref h0, .long v, .long w]) (n := 5) (Nat.le_of_ble_eq_true rfl)
  rw [lg_entry_eq]
  generalize (lg_sl ([.ref h0, .long v, .long w]) ++ List.replicate (5 - (lg_sl ([.ref h0, .long v, .long w])).length) Slot.unset).toArray = ls at hl ⊢
  have hl : lv_has ls 5 [(0, .ref h0), (1, .long v), (3, .long w)] := hl
  refine lv_aload_n hx hb dX1_withHalf_0 rfl (lv_at hl 0 rfl) ?_
  refine lv_lload_n hx hb dX1_withHalf_1 rfl (lv_at hl 1 rfl) ?_
  refine lv_aload_n hx hb dX1_withHalf_2 rfl (lv_at hl 0 rfl) ?_
  refine lv_lload_n hx hb dX1_withHalf_3 rfl (lv_at hl 2 rfl) ?_
  refine lv_iconst (v := -1) hx hb dX1_withHalf_4 (by decide) ?_
  refine p_V (C := RX1) (rest := [.long v, .ref h0]) hx hb hml hown hts (m_X1_scaled l D h0 n w (-1 : Int32)) q493 q495 q15 q24 q496 rfl nX1_scaled ⟨Nat.le_of_ble_eq_true rfl, Nat.le_of_ble_eq_true rfl⟩ hl.1 rfl rfl (Nat.le_of_ble_eq_true rfl) dX1_withHalf_5 ⟨Nat.zero_le _, Nat.zero_le _⟩ soPS_bl (va_recv hK hP (ci := 2) (q0 := 0) rfl rfl) (soPS_go hP hK hA) ?_
  refine p_V (C := RX1) (rest := []) hx hb hml hown hts (m_X1_sum l D h0 n v (sX1_scaled n w (-1 : Int32))) q269 q271 q3 q24 q272 rfl nX1_sum ⟨Nat.le_of_ble_eq_true rfl, Nat.le_of_ble_eq_true rfl⟩ hl.1 rfl rfl (Nat.le_of_ble_eq_true rfl) dX1_withHalf_8 ⟨Nat.zero_le _, Nat.zero_le _⟩ soPS_bl (va_recv hK hP (ci := 2) (q0 := 0) rfl rfl) (soPS_go hP hK hA) ?_
  exact W.lret hx hb hr (fun t ht hW => pq_l (rfl) ht) nil_free dX1_withHalf_11
