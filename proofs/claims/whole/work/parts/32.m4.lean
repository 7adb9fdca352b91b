/-- what 'take' needs: a balance, numbers, a difference that is one -/
def takeOK (σ : St) (g : Int32) (v : Int64) : Prop := vp_in g 16 ∧ (sX5_isWhole (g / 4) = 0 → okF (g / 4) v) ∧ (¬ zCnt σ g.toNatClampNeg = 0 → sX5_isWhole (g / 4) = 0 → okF (g / 4) (zNow σ g.toNatClampNeg)) ∧ (¬ zCnt σ g.toNatClampNeg = 0 → sX5_isWhole (g / 4) = 0 → (sX5_isInfinite (g / 4) v = 0 ∨ ¬ v = (zNow σ g.toNatClampNeg)) → vf_n64 (FP.dsub (sX5_real (g / 4) v) (sX5_real (g / 4) (zNow σ g.toNatClampNeg))))
theorem nX5_thrown : yX5_thrown.cls ≠ "java/lang/invoke/MethodHandle" ∧ yX5_thrown.cls ≠ "java/lang/invoke/VarHandle" ∧ (parseMethodDescriptor yX5_thrown.desc).map (fun d => d.parameters.length) = some 0 := by decide +kernel
set_option maxHeartbeats 4000000 in
set_option maxRecDepth 100000 in
theorem m_X5_thrown (l : Launch) (D : va_G) (A : Nat → Prop) (cI cJ : ClassId) (ma : Nat → Nat) (th : Int32) (σ : St) (fr : va_W) : PM l yX5_thrown cX5_thrown 1 (some .int) 0 [.ref (ma 0)] (mPre D A cI cJ (MW cI cJ ma th σ fr)) (.int th) := by
  refine Met.ofW (cc := cX5_thrown) (maxL := 1) (ret := (some .int)) (by decide) rfl ?_
  intro p e s m args below meth c s₁ B hml hv
  obtain ⟨rfl, hP, hK, hD⟩ := hv
  have hx := B.exec
  have hb := B.bytes
  have hr := B.returns
  have hts : ∀ w ∈ AW, w.before _ s = true := fun w h => atoms_spec (ws := Cond.code yX5_thrown cX5_thrown 1 (some .int) :: AW) B.pre w (List.mem_cons_of_mem _ h)
  have hown : s.vm.findClass RX5 = some m.cls := findClass_of_methodNamed B.named
  have hlocks := B.notSynchronized
  have hS : va_S A s.heap s.heap [] := va_S.rf
  have hl := lv_entry ([.ref (ma 0)]) (n := 1) (Nat.le_of_ble_eq_true rfl)
  rw [lg_entry_eq]
  generalize (lg_sl ([.ref (ma 0)]) ++ List.replicate (1 - (lg_sl ([.ref (ma 0)])).length) Slot.unset).toArray = ls at hl ⊢
  have hl : lv_has ls 1 [(0, .ref (ma 0))] := hl
  refine lv_aload_n hx hb dX5_thrown_0 rfl (lv_at hl 0 rfl) ?_
  refine va_get (v := .int th) (C := RX5) (T := TX5) (N := 11) (ci := 5) hx hb hts inX5 hown hK hP 0 rfl rfl 0 (by decide) (hts _ q583) (fun _ h => h) rfl dX5_thrown_1 ?_
  exact W.iret hx hb hr (fun t ht hW => pq_i (rfl) ht) nil_free dX5_thrown_4
def sX5_take_e1 (σ : St) (g : Int32) (v : Int64) : Int64 := (sX5_less (g / (4 : Int32)) v (zNow σ g.toNatClampNeg))
def sX5_take (σ : St) (g : Int32) (v : Int64) : Int32 := if (zCnt σ g.toNatClampNeg) = 0 then ((zCnt σ g.toNatClampNeg) + (1 : Int32)) else ((zCnt σ g.toNatClampNeg) + (1 : Int32))
def hX5_take (th : Int32) (σ : St) (g : Int32) (v : Int64) : Int32 := if (zCnt σ g.toNatClampNeg) = 0 then th else th
def tX5_take (σ : St) (g : Int32) (v : Int64) : St := if (zCnt σ g.toNatClampNeg) = 0 then ((upd (zCnt σ) g.toNatClampNeg ((zCnt σ g.toNatClampNeg) + (1 : Int32))), (vp_updL (zNow σ) g.toNatClampNeg v), (vp_updL (zLst σ) g.toNatClampNeg v), (vp_updL (zGst σ) g.toNatClampNeg v), (zSwg σ), (zTrd σ), (zCds σ), (zOps σ), (zOrd σ), (zRfs σ)) else ((upd (zCnt σ) g.toNatClampNeg ((zCnt σ g.toNatClampNeg) + (1 : Int32))), (vp_updL (zNow σ) g.toNatClampNeg v), (vp_updL (zLst σ) g.toNatClampNeg (sX5_lesser (g / (4 : Int32)) (zLst σ g.toNatClampNeg) v)), (vp_updL (zGst σ) g.toNatClampNeg (sX5_greater (g / (4 : Int32)) (zGst σ g.toNatClampNeg) v)), (vp_updL (zSwg σ) g.toNatClampNeg (sX5_greater (g / (4 : Int32)) (zSwg σ g.toNatClampNeg) (sX5_size (g / (4 : Int32)) (sX5_take_e1 σ g v)))), (vp_updL (zTrd σ) g.toNatClampNeg (sX5_signOf (g / (4 : Int32)) (sX5_take_e1 σ g v))), (zCds σ), (zOps σ), (zOrd σ), (zRfs σ))
theorem nX5_take : yX5_take.cls ≠ "java/lang/invoke/MethodHandle" ∧ yX5_take.cls ≠ "java/lang/invoke/VarHandle" ∧ (parseMethodDescriptor yX5_take.desc).map (fun d => d.parameters.length) = some 2 := by decide +kernel
set_option maxHeartbeats 4000000 in
set_option maxRecDepth 100000 in
theorem m_X5_take (l : Launch) (D : va_G) (A : Nat → Prop) (cI cJ : ClassId) (ma : Nat → Nat) (th : Int32) (σ : St) (fr : va_W) (g : Int32) (v : Int64) (hT : takeOK σ g v) : IM l yX5_take cX5_take 7 (some .int) 4 [.ref (ma 0), .int g, .long v] (mPre D A cI cJ (MW cI cJ ma th σ fr)) D A (some (.int (sX5_take σ g v))) (MW cI cJ ma (hX5_take th σ g v) (tX5_take σ g v) fr) := by
  refine Met.ofW (cc := cX5_take) (maxL := 7) (ret := (some .int)) (by decide) rfl ?_
  intro p e s m args below meth c s₁ B hml hv
  obtain ⟨rfl, hP, hK, hD⟩ := hv
  have hx := B.exec
  have hb := B.bytes
  have hr := B.returns
  have hts : ∀ w ∈ AW, w.before _ s = true := fun w h => atoms_spec (ws := Cond.code yX5_take cX5_take 7 (some .int) :: AW) B.pre w (List.mem_cons_of_mem _ h)
  have hown : s.vm.findClass RX5 = some m.cls := findClass_of_methodNamed B.named
  have hlocks := B.notSynchronized
  have hS : va_S A s.heap s.heap [] := va_S.rf
  have hl := lv_entry ([.ref (ma 0), .int g, .long v]) (n := 7) (Nat.le_of_ble_eq_true rfl)
  rw [lg_entry_eq]
  generalize (lg_sl ([.ref (ma 0), .int g, .long v]) ++ List.replicate (7 - (lg_sl ([.ref (ma 0), .int g, .long v])).length) Slot.unset).toArray = ls at hl ⊢
  have hl : lv_has ls 7 [(0, .ref (ma 0)), (1, .int g), (2, .long v)] := hl
  refine lv_iload_n hx hb dX5_take_0 rfl (lv_at hl 1 rfl) ?_
  refine lv_iconst (v := 4) hx hb dX5_take_1 (by decide) ?_
  refine lv_idiv hx hb dX5_take_2 (by decide) ?_
  refine lv_istore (lv' := [(4, .int (g / (4 : Int32))), (0, .ref (ma 0)), (1, .int g), (2, .long v)]) hx hb dX5_take_3 hl (by decide) rfl (fun ls hl => ?_)
  refine lv_aload_n hx hb dX5_take_5 rfl (lv_at hl 1 rfl) ?_
  refine va_get (v := .ref (ma 1)) (C := RX5) (T := TX5) (N := 11) (ci := 5) hx hb hts inX5 hown hK hP 0 rfl rfl 1 (by decide) (hts _ q584) (fun _ h => h) rfl dX5_take_6 ?_
  refine lv_iload_n hx hb dX5_take_9 rfl (lv_at hl 2 rfl) ?_
  refine va_iald (f := (zCnt σ)) hx hb hK hP 1 0 rfl rfl (hT.1) dX5_take_10 ?_
  refine c_if_ne (tgt := 31) hx hb dX5_take_11 (by decide) (fun h1 => ?_) (fun h1 => ?_)
  · skip
    refine lv_iload hx hb dX5_take_31 (lv_at hl 0 rfl) ?_
    refine lv_lload_n hx hb dX5_take_33 rfl (lv_at hl 3 rfl) ?_
    refine lv_aload_n hx hb dX5_take_34 rfl (lv_at hl 1 rfl) ?_
    refine va_get (v := .ref (ma 2)) (C := RX5) (T := TX5) (N := 11) (ci := 5) hx hb hts inX5 hown hK hP 0 rfl rfl 2 (by decide) (hts _ q585) (fun _ h => h) rfl dX5_take_35 ?_
    refine lv_iload_n hx hb dX5_take_38 rfl (lv_at hl 2 rfl) ?_
    refine va_lald (f := (zNow σ)) hx hb hK hP 2 1 rfl rfl (hT.1) dX5_take_39 ?_
    refine p_S (rest := []) hx hb hml hown hts (m_X5_less l (g / (4 : Int32)) v (zNow σ g.toNatClampNeg) (hT.2.1) (hT.2.2.1 h1) (hT.2.2.2 h1)) q640 q641 q26 q642 nX5_less ⟨Nat.le_of_ble_eq_true rfl, Nat.le_of_ble_eq_true rfl⟩ hl.1 rfl rfl (Nat.le_of_ble_eq_true rfl) dX5_take_40 ⟨Nat.zero_le _, Nat.zero_le _⟩ blind_c (fun _ _ _ => trivial) ?_
    refine p_top (w := .long (sX5_take_e1 σ g v)) rfl ?_
    refine lv_lstore (lv' := [(5, .long (sX5_take_e1 σ g v)), (4, .int (g / (4 : Int32))), (0, .ref (ma 0)), (1, .int g), (2, .long v)]) hx hb dX5_take_43 hl (by decide) rfl (fun ls hl => ?_)
    refine lv_aload_n hx hb dX5_take_45 rfl (lv_at hl 2 rfl) ?_
    refine va_get (v := .ref (ma 6)) (C := RX5) (T := TX5) (N := 11) (ci := 5) hx hb hts inX5 hown hK hP 0 rfl rfl 6 (by decide) (hts _ q589) (fun _ h => h) rfl dX5_take_46 ?_
    refine lv_iload_n hx hb dX5_take_49 rfl (lv_at hl 3 rfl) ?_
    refine lv_iload hx hb dX5_take_50 (lv_at hl 1 rfl) ?_
    refine lv_lload hx hb dX5_take_52 (lv_at hl 0 rfl) ?_
    refine p_S (rest := [.int g, .ref (ma 6)]) hx hb hml hown hts (m_X5_signOf l (g / (4 : Int32)) (sX5_take_e1 σ g v)) q686 q687 q26 q688 nX5_signOf ⟨Nat.le_of_ble_eq_true rfl, Nat.le_of_ble_eq_true rfl⟩ hl.1 rfl rfl (Nat.le_of_ble_eq_true rfl) dX5_take_54 ⟨Nat.zero_le _, Nat.zero_le _⟩ blind_c (fun _ _ _ => trivial) ?_
    refine va_last (f := (zTrd σ)) hx hb hK hP hD hS 6 1 rfl rfl (hT.1) dX5_take_57 (fun H locs hP hD hS => ?_)
    have hP : va_P D vwCl (MW cI cJ ma th ((zCnt σ), (zNow σ), (zLst σ), (zGst σ), (zSwg σ), (vp_updL (zTrd σ) g.toNatClampNeg (sX5_signOf (g / (4 : Int32)) (sX5_take_e1 σ g v))), (zCds σ), (zOps σ), (zOrd σ), (zRfs σ)) fr) H := hP
    have hD : va_D A (MW cI cJ ma th ((zCnt σ), (zNow σ), (zLst σ), (zGst σ), (zSwg σ), (vp_updL (zTrd σ) g.toNatClampNeg (sX5_signOf (g / (4 : Int32)) (sX5_take_e1 σ g v))), (zCds σ), (zOps σ), (zOrd σ), (zRfs σ)) fr) := hD
    refine lv_aload_n hx hb dX5_take_58 rfl (lv_at hl 2 rfl) ?_
    refine va_get (v := .ref (ma 5)) (C := RX5) (T := TX5) (N := 11) (ci := 5) hx hb hts inX5 hown hK hP 0 rfl rfl 5 (by decide) (hts _ q588) (fun _ h => h) rfl dX5_take_59 ?_
    refine lv_iload_n hx hb dX5_take_62 rfl (lv_at hl 3 rfl) ?_
    refine lv_iload hx hb dX5_take_63 (lv_at hl 1 rfl) ?_
    refine lv_aload_n hx hb dX5_take_65 rfl (lv_at hl 2 rfl) ?_
    refine va_get (v := .ref (ma 5)) (C := RX5) (T := TX5) (N := 11) (ci := 5) hx hb hts inX5 hown hK hP 0 rfl rfl 5 (by decide) (hts _ q588) (fun _ h => h) rfl dX5_take_66 ?_
    refine lv_iload_n hx hb dX5_take_69 rfl (lv_at hl 3 rfl) ?_
    refine va_lald (f := (zSwg σ)) hx hb hK hP 5 1 rfl rfl (hT.1) dX5_take_70 ?_
    refine lv_iload hx hb dX5_take_71 (lv_at hl 1 rfl) ?_
    refine lv_lload hx hb dX5_take_73 (lv_at hl 0 rfl) ?_
    refine p_S (rest := [.long (zSwg σ g.toNatClampNeg), .int (g / (4 : Int32)), .int g, .ref (ma 5)]) hx hb hml hown hts (m_X5_size l (g / (4 : Int32)) (sX5_take_e1 σ g v)) q700 q701 q26 q702 nX5_size ⟨Nat.le_of_ble_eq_true rfl, Nat.le_of_ble_eq_true rfl⟩ hl.1 rfl rfl (Nat.le_of_ble_eq_true rfl) dX5_take_75 ⟨Nat.zero_le _, Nat.zero_le _⟩ blind_c (fun _ _ _ => trivial) ?_
    refine p_S (rest := [.int g, .ref (ma 5)]) hx hb hml hown hts (m_X5_greater l (g / (4 : Int32)) (zSwg σ g.toNatClampNeg) (sX5_size (g / (4 : Int32)) (sX5_take_e1 σ g v))) q703 q704 q26 q705 nX5_greater ⟨Nat.le_of_ble_eq_true rfl, Nat.le_of_ble_eq_true rfl⟩ hl.1 rfl rfl (Nat.le_of_ble_eq_true rfl) dX5_take_78 ⟨Nat.zero_le _, Nat.zero_le _⟩ blind_c (fun _ _ _ => trivial) ?_
    refine va_last (f := (zSwg σ)) hx hb hK hP hD hS 5 1 rfl rfl (hT.1) dX5_take_81 (fun H locs hP hD hS => ?_)
    have hP : va_P D vwCl (MW cI cJ ma th ((zCnt σ), (zNow σ), (zLst σ), (zGst σ), (vp_updL (zSwg σ) g.toNatClampNeg (sX5_greater (g / (4 : Int32)) (zSwg σ g.toNatClampNeg) (sX5_size (g / (4 : Int32)) (sX5_take_e1 σ g v)))), (vp_updL (zTrd σ) g.toNatClampNeg (sX5_signOf (g / (4 : Int32)) (sX5_take_e1 σ g v))), (zCds σ), (zOps σ), (zOrd σ), (zRfs σ)) fr) H := hP
    have hD : va_D A (MW cI cJ ma th ((zCnt σ), (zNow σ), (zLst σ), (zGst σ), (vp_updL (zSwg σ) g.toNatClampNeg (sX5_greater (g / (4 : Int32)) (zSwg σ g.toNatClampNeg) (sX5_size (g / (4 : Int32)) (sX5_take_e1 σ g v)))), (vp_updL (zTrd σ) g.toNatClampNeg (sX5_signOf (g / (4 : Int32)) (sX5_take_e1 σ g v))), (zCds σ), (zOps σ), (zOrd σ), (zRfs σ)) fr) := hD
    refine lv_aload_n hx hb dX5_take_82 rfl (lv_at hl 2 rfl) ?_
    refine va_get (v := .ref (ma 3)) (C := RX5) (T := TX5) (N := 11) (ci := 5) hx hb hts inX5 hown hK hP 0 rfl rfl 3 (by decide) (hts _ q586) (fun _ h => h) rfl dX5_take_83 ?_
    refine lv_iload_n hx hb dX5_take_86 rfl (lv_at hl 3 rfl) ?_
    refine lv_iload hx hb dX5_take_87 (lv_at hl 1 rfl) ?_
    refine lv_aload_n hx hb dX5_take_89 rfl (lv_at hl 2 rfl) ?_
    refine va_get (v := .ref (ma 3)) (C := RX5) (T := TX5) (N := 11) (ci := 5) hx hb hts inX5 hown hK hP 0 rfl rfl 3 (by decide) (hts _ q586) (fun _ h => h) rfl dX5_take_90 ?_
    refine lv_iload_n hx hb dX5_take_93 rfl (lv_at hl 3 rfl) ?_
    refine va_lald (f := (zLst σ)) hx hb hK hP 3 1 rfl rfl (hT.1) dX5_take_94 ?_
    refine lv_lload_n hx hb dX5_take_95 rfl (lv_at hl 4 rfl) ?_
    refine p_S (rest := [.int g, .ref (ma 3)]) hx hb hml hown hts (m_X5_lesser l (g / (4 : Int32)) (zLst σ g.toNatClampNeg) v) q709 q710 q26 q711 nX5_lesser ⟨Nat.le_of_ble_eq_true rfl, Nat.le_of_ble_eq_true rfl⟩ hl.1 rfl rfl (Nat.le_of_ble_eq_true rfl) dX5_take_96 ⟨Nat.zero_le _, Nat.zero_le _⟩ blind_c (fun _ _ _ => trivial) ?_
    refine va_last (f := (zLst σ)) hx hb hK hP hD hS 3 1 rfl rfl (hT.1) dX5_take_99 (fun H locs hP hD hS => ?_)
    have hP : va_P D vwCl (MW cI cJ ma th ((zCnt σ), (zNow σ), (vp_updL (zLst σ) g.toNatClampNeg (sX5_lesser (g / (4 : Int32)) (zLst σ g.toNatClampNeg) v)), (zGst σ), (vp_updL (zSwg σ) g.toNatClampNeg (sX5_greater (g / (4 : Int32)) (zSwg σ g.toNatClampNeg) (sX5_size (g / (4 : Int32)) (sX5_take_e1 σ g v)))), (vp_updL (zTrd σ) g.toNatClampNeg (sX5_signOf (g / (4 : Int32)) (sX5_take_e1 σ g v))), (zCds σ), (zOps σ), (zOrd σ), (zRfs σ)) fr) H := hP
    have hD : va_D A (MW cI cJ ma th ((zCnt σ), (zNow σ), (vp_updL (zLst σ) g.toNatClampNeg (sX5_lesser (g / (4 : Int32)) (zLst σ g.toNatClampNeg) v)), (zGst σ), (vp_updL (zSwg σ) g.toNatClampNeg (sX5_greater (g / (4 : Int32)) (zSwg σ g.toNatClampNeg) (sX5_size (g / (4 : Int32)) (sX5_take_e1 σ g v)))), (vp_updL (zTrd σ) g.toNatClampNeg (sX5_signOf (g / (4 : Int32)) (sX5_take_e1 σ g v))), (zCds σ), (zOps σ), (zOrd σ), (zRfs σ)) fr) := hD
    refine lv_aload_n hx hb dX5_take_100 rfl (lv_at hl 2 rfl) ?_
    refine va_get (v := .ref (ma 4)) (C := RX5) (T := TX5) (N := 11) (ci := 5) hx hb hts inX5 hown hK hP 0 rfl rfl 4 (by decide) (hts _ q587) (fun _ h => h) rfl dX5_take_101 ?_
    refine lv_iload_n hx hb dX5_take_104 rfl (lv_at hl 3 rfl) ?_
    refine lv_iload hx hb dX5_take_105 (lv_at hl 1 rfl) ?_
    refine lv_aload_n hx hb dX5_take_107 rfl (lv_at hl 2 rfl) ?_
    refine va_get (v := .ref (ma 4)) (C := RX5) (T := TX5) (N := 11) (ci := 5) hx hb hts inX5 hown hK hP 0 rfl rfl 4 (by decide) (hts _ q587) (fun _ h => h) rfl dX5_take_108 ?_
    refine lv_iload_n hx hb dX5_take_111 rfl (lv_at hl 3 rfl) ?_
    refine va_lald (f := (zGst σ)) hx hb hK hP 4 1 rfl rfl (hT.1) dX5_take_112 ?_
    refine lv_lload_n hx hb dX5_take_113 rfl (lv_at hl 4 rfl) ?_
    refine p_S (rest := [.int g, .ref (ma 4)]) hx hb hml hown hts (m_X5_greater l (g / (4 : Int32)) (zGst σ g.toNatClampNeg) v) q703 q704 q26 q705 nX5_greater ⟨Nat.le_of_ble_eq_true rfl, Nat.le_of_ble_eq_true rfl⟩ hl.1 rfl rfl (Nat.le_of_ble_eq_true rfl) dX5_take_114 ⟨Nat.zero_le _, Nat.zero_le _⟩ blind_c (fun _ _ _ => trivial) ?_
    refine va_last (f := (zGst σ)) hx hb hK hP hD hS 4 1 rfl rfl (hT.1) dX5_take_117 (fun H locs hP hD hS => ?_)
    have hP : va_P D vwCl (MW cI cJ ma th ((zCnt σ), (zNow σ), (vp_updL (zLst σ) g.toNatClampNeg (sX5_lesser (g / (4 : Int32)) (zLst σ g.toNatClampNeg) v)), (vp_updL (zGst σ) g.toNatClampNeg (sX5_greater (g / (4 : Int32)) (zGst σ g.toNatClampNeg) v)), (vp_updL (zSwg σ) g.toNatClampNeg (sX5_greater (g / (4 : Int32)) (zSwg σ g.toNatClampNeg) (sX5_size (g / (4 : Int32)) (sX5_take_e1 σ g v)))), (vp_updL (zTrd σ) g.toNatClampNeg (sX5_signOf (g / (4 : Int32)) (sX5_take_e1 σ g v))), (zCds σ), (zOps σ), (zOrd σ), (zRfs σ)) fr) H := hP
    have hD : va_D A (MW cI cJ ma th ((zCnt σ), (zNow σ), (vp_updL (zLst σ) g.toNatClampNeg (sX5_lesser (g / (4 : Int32)) (zLst σ g.toNatClampNeg) v)), (vp_updL (zGst σ) g.toNatClampNeg (sX5_greater (g / (4 : Int32)) (zGst σ g.toNatClampNeg) v)), (vp_updL (zSwg σ) g.toNatClampNeg (sX5_greater (g / (4 : Int32)) (zSwg σ g.toNatClampNeg) (sX5_size (g / (4 : Int32)) (sX5_take_e1 σ g v)))), (vp_updL (zTrd σ) g.toNatClampNeg (sX5_signOf (g / (4 : Int32)) (sX5_take_e1 σ g v))), (zCds σ), (zOps σ), (zOrd σ), (zRfs σ)) fr) := hD
    refine lv_aload_n hx hb dX5_take_118 rfl (lv_at hl 2 rfl) ?_
    refine va_get (v := .ref (ma 2)) (C := RX5) (T := TX5) (N := 11) (ci := 5) hx hb hts inX5 hown hK hP 0 rfl rfl 2 (by decide) (hts _ q585) (fun _ h => h) rfl dX5_take_119 ?_
    refine lv_iload_n hx hb dX5_take_122 rfl (lv_at hl 3 rfl) ?_
    refine lv_lload_n hx hb dX5_take_123 rfl (lv_at hl 4 rfl) ?_
    refine va_last (f := (zNow σ)) hx hb hK hP hD hS 2 1 rfl rfl (hT.1) dX5_take_124 (fun H locs hP hD hS => ?_)
    have hP : va_P D vwCl (MW cI cJ ma th ((zCnt σ), (vp_updL (zNow σ) g.toNatClampNeg v), (vp_updL (zLst σ) g.toNatClampNeg (sX5_lesser (g / (4 : Int32)) (zLst σ g.toNatClampNeg) v)), (vp_updL (zGst σ) g.toNatClampNeg (sX5_greater (g / (4 : Int32)) (zGst σ g.toNatClampNeg) v)), (vp_updL (zSwg σ) g.toNatClampNeg (sX5_greater (g / (4 : Int32)) (zSwg σ g.toNatClampNeg) (sX5_size (g / (4 : Int32)) (sX5_take_e1 σ g v)))), (vp_updL (zTrd σ) g.toNatClampNeg (sX5_signOf (g / (4 : Int32)) (sX5_take_e1 σ g v))), (zCds σ), (zOps σ), (zOrd σ), (zRfs σ)) fr) H := hP
    have hD : va_D A (MW cI cJ ma th ((zCnt σ), (vp_updL (zNow σ) g.toNatClampNeg v), (vp_updL (zLst σ) g.toNatClampNeg (sX5_lesser (g / (4 : Int32)) (zLst σ g.toNatClampNeg) v)), (vp_updL (zGst σ) g.toNatClampNeg (sX5_greater (g / (4 : Int32)) (zGst σ g.toNatClampNeg) v)), (vp_updL (zSwg σ) g.toNatClampNeg (sX5_greater (g / (4 : Int32)) (zSwg σ g.toNatClampNeg) (sX5_size (g / (4 : Int32)) (sX5_take_e1 σ g v)))), (vp_updL (zTrd σ) g.toNatClampNeg (sX5_signOf (g / (4 : Int32)) (sX5_take_e1 σ g v))), (zCds σ), (zOps σ), (zOrd σ), (zRfs σ)) fr) := hD
    refine lv_aload_n hx hb dX5_take_125 rfl (lv_at hl 2 rfl) ?_
    refine va_get (v := .ref (ma 1)) (C := RX5) (T := TX5) (N := 11) (ci := 5) hx hb hts inX5 hown hK hP 0 rfl rfl 1 (by decide) (hts _ q584) (fun _ h => h) rfl dX5_take_126 ?_
    refine lv_iload_n hx hb dX5_take_129 rfl (lv_at hl 3 rfl) ?_
    refine lv_dup2_11 hx hb dX5_take_130 rfl rfl ?_
    refine va_iald (f := (zCnt σ)) hx hb hK hP 1 0 rfl rfl (hT.1) dX5_take_131 ?_
    refine lv_iconst (v := 1) hx hb dX5_take_132 (by decide) ?_
    refine lv_iadd hx hb dX5_take_133 ?_
    refine va_iast (f := (zCnt σ)) hx hb hK hP hD hS 1 0 rfl rfl (hT.1) dX5_take_134 (fun H locs hP hD hS => ?_)
    have hP : va_P D vwCl (MW cI cJ ma th ((upd (zCnt σ) g.toNatClampNeg ((zCnt σ g.toNatClampNeg) + (1 : Int32))), (vp_updL (zNow σ) g.toNatClampNeg v), (vp_updL (zLst σ) g.toNatClampNeg (sX5_lesser (g / (4 : Int32)) (zLst σ g.toNatClampNeg) v)), (vp_updL (zGst σ) g.toNatClampNeg (sX5_greater (g / (4 : Int32)) (zGst σ g.toNatClampNeg) v)), (vp_updL (zSwg σ) g.toNatClampNeg (sX5_greater (g / (4 : Int32)) (zSwg σ g.toNatClampNeg) (sX5_size (g / (4 : Int32)) (sX5_take_e1 σ g v)))), (vp_updL (zTrd σ) g.toNatClampNeg (sX5_signOf (g / (4 : Int32)) (sX5_take_e1 σ g v))), (zCds σ), (zOps σ), (zOrd σ), (zRfs σ)) fr) H := hP
    have hD : va_D A (MW cI cJ ma th ((upd (zCnt σ) g.toNatClampNeg ((zCnt σ g.toNatClampNeg) + (1 : Int32))), (vp_updL (zNow σ) g.toNatClampNeg v), (vp_updL (zLst σ) g.toNatClampNeg (sX5_lesser (g / (4 : Int32)) (zLst σ g.toNatClampNeg) v)), (vp_updL (zGst σ) g.toNatClampNeg (sX5_greater (g / (4 : Int32)) (zGst σ g.toNatClampNeg) v)), (vp_updL (zSwg σ) g.toNatClampNeg (sX5_greater (g / (4 : Int32)) (zSwg σ g.toNatClampNeg) (sX5_size (g / (4 : Int32)) (sX5_take_e1 σ g v)))), (vp_updL (zTrd σ) g.toNatClampNeg (sX5_signOf (g / (4 : Int32)) (sX5_take_e1 σ g v))), (zCds σ), (zOps σ), (zOrd σ), (zRfs σ)) fr) := hD
    refine lv_aload_n hx hb dX5_take_135 rfl (lv_at hl 2 rfl) ?_
    refine va_get (v := .ref (ma 1)) (C := RX5) (T := TX5) (N := 11) (ci := 5) hx hb hts inX5 hown hK hP 0 rfl rfl 1 (by decide) (hts _ q584) (fun _ h => h) rfl dX5_take_136 ?_
    refine lv_iload_n hx hb dX5_take_139 rfl (lv_at hl 3 rfl) ?_
    refine va_iald (f := (upd (zCnt σ) g.toNatClampNeg ((zCnt σ g.toNatClampNeg) + (1 : Int32)))) hx hb hK hP 1 0 rfl rfl (hT.1) dX5_take_140 ?_
    refine p_top (w := .int ((zCnt σ g.toNatClampNeg) + (1 : Int32))) (by rw [pk_us]) ?_
    exact W.iret hx hb hr (fun t ht hW => ⟨congrArg (fun z => Outcome.returned (some (Value.int z))) (by rw [sX5_take, if_neg h1]), (by unfold hX5_take tX5_take; simp only [if_neg h1]; rw [ht]; exact hP), hS.F ht⟩) hS.2.2 dX5_take_141
  · skip
    refine lv_aload_n hx hb dX5_take_14 rfl (lv_at hl 1 rfl) ?_
    refine va_get (v := .ref (ma 3)) (C := RX5) (T := TX5) (N := 11) (ci := 5) hx hb hts inX5 hown hK hP 0 rfl rfl 3 (by decide) (hts _ q586) (fun _ h => h) rfl dX5_take_15 ?_
    refine lv_iload_n hx hb dX5_take_18 rfl (lv_at hl 2 rfl) ?_
    refine lv_lload_n hx hb dX5_take_19 rfl (lv_at hl 3 rfl) ?_
    refine va_last (f := (zLst σ)) hx hb hK hP hD hS 3 1 rfl rfl (hT.1) dX5_take_20 (fun H locs hP hD hS => ?_)
    have hP : va_P D vwCl (MW cI cJ ma th ((zCnt σ), (zNow σ), (vp_updL (zLst σ) g.toNatClampNeg v), (zGst σ), (zSwg σ), (zTrd σ), (zCds σ), (zOps σ), (zOrd σ), (zRfs σ)) fr) H := hP
    have hD : va_D A (MW cI cJ ma th ((zCnt σ), (zNow σ), (vp_updL (zLst σ) g.toNatClampNeg v), (zGst σ), (zSwg σ), (zTrd σ), (zCds σ), (zOps σ), (zOrd σ), (zRfs σ)) fr) := hD
    refine lv_aload_n hx hb dX5_take_21 rfl (lv_at hl 1 rfl) ?_
    refine va_get (v := .ref (ma 4)) (C := RX5) (T := TX5) (N := 11) (ci := 5) hx hb hts inX5 hown hK hP 0 rfl rfl 4 (by decide) (hts _ q587) (fun _ h => h) rfl dX5_take_22 ?_
    refine lv_iload_n hx hb dX5_take_25 rfl (lv_at hl 2 rfl) ?_
    refine lv_lload_n hx hb dX5_take_26 rfl (lv_at hl 3 rfl) ?_
    refine va_last (f := (zGst σ)) hx hb hK hP hD hS 4 1 rfl rfl (hT.1) dX5_take_27 (fun H locs hP hD hS => ?_)
    have hP : va_P D vwCl (MW cI cJ ma th ((zCnt σ), (zNow σ), (vp_updL (zLst σ) g.toNatClampNeg v), (vp_updL (zGst σ) g.toNatClampNeg v), (zSwg σ), (zTrd σ), (zCds σ), (zOps σ), (zOrd σ), (zRfs σ)) fr) H := hP
    have hD : va_D A (MW cI cJ ma th ((zCnt σ), (zNow σ), (vp_updL (zLst σ) g.toNatClampNeg v), (vp_updL (zGst σ) g.toNatClampNeg v), (zSwg σ), (zTrd σ), (zCds σ), (zOps σ), (zOrd σ), (zRfs σ)) fr) := hD
    refine lv_goto (tgt := 118) hx hb dX5_take_28 (by decide) ?_
    refine lv_aload_n hx hb dX5_take_118 rfl (lv_at hl 1 rfl) ?_
    refine va_get (v := .ref (ma 2)) (C := RX5) (T := TX5) (N := 11) (ci := 5) hx hb hts inX5 hown hK hP 0 rfl rfl 2 (by decide) (hts _ q585) (fun _ h => h) rfl dX5_take_119 ?_
    refine lv_iload_n hx hb dX5_take_122 rfl (lv_at hl 2 rfl) ?_
    refine lv_lload_n hx hb dX5_take_123 rfl (lv_at hl 3 rfl) ?_
    refine va_last (f := (zNow σ)) hx hb hK hP hD hS 2 1 rfl rfl (hT.1) dX5_take_124 (fun H locs hP hD hS => ?_)
    have hP : va_P D vwCl (MW cI cJ ma th ((zCnt σ), (vp_updL (zNow σ) g.toNatClampNeg v), (vp_updL (zLst σ) g.toNatClampNeg v), (vp_updL (zGst σ) g.toNatClampNeg v), (zSwg σ), (zTrd σ), (zCds σ), (zOps σ), (zOrd σ), (zRfs σ)) fr) H := hP
    have hD : va_D A (MW cI cJ ma th ((zCnt σ), (vp_updL (zNow σ) g.toNatClampNeg v), (vp_updL (zLst σ) g.toNatClampNeg v), (vp_updL (zGst σ) g.toNatClampNeg v), (zSwg σ), (zTrd σ), (zCds σ), (zOps σ), (zOrd σ), (zRfs σ)) fr) := hD
    refine lv_aload_n hx hb dX5_take_125 rfl (lv_at hl 1 rfl) ?_
    refine va_get (v := .ref (ma 1)) (C := RX5) (T := TX5) (N := 11) (ci := 5) hx hb hts inX5 hown hK hP 0 rfl rfl 1 (by decide) (hts _ q584) (fun _ h => h) rfl dX5_take_126 ?_
    refine lv_iload_n hx hb dX5_take_129 rfl (lv_at hl 2 rfl) ?_
    refine lv_dup2_11 hx hb dX5_take_130 rfl rfl ?_
    refine va_iald (f := (zCnt σ)) hx hb hK hP 1 0 rfl rfl (hT.1) dX5_take_131 ?_
    refine lv_iconst (v := 1) hx hb dX5_take_132 (by decide) ?_
    refine lv_iadd hx hb dX5_take_133 ?_
    refine va_iast (f := (zCnt σ)) hx hb hK hP hD hS 1 0 rfl rfl (hT.1) dX5_take_134 (fun H locs hP hD hS => ?_)
    have hP : va_P D vwCl (MW cI cJ ma th ((upd (zCnt σ) g.toNatClampNeg ((zCnt σ g.toNatClampNeg) + (1 : Int32))), (vp_updL (zNow σ) g.toNatClampNeg v), (vp_updL (zLst σ) g.toNatClampNeg v), (vp_updL (zGst σ) g.toNatClampNeg v), (zSwg σ), (zTrd σ), (zCds σ), (zOps σ), (zOrd σ), (zRfs σ)) fr) H := hP
    have hD : va_D A (MW cI cJ ma th ((upd (zCnt σ) g.toNatClampNeg ((zCnt σ g.toNatClampNeg) + (1 : Int32))), (vp_updL (zNow σ) g.toNatClampNeg v), (vp_updL (zLst σ) g.toNatClampNeg v), (vp_updL (zGst σ) g.toNatClampNeg v), (zSwg σ), (zTrd σ), (zCds σ), (zOps σ), (zOrd σ), (zRfs σ)) fr) := hD
    refine lv_aload_n hx hb dX5_take_135 rfl (lv_at hl 1 rfl) ?_
    refine va_get (v := .ref (ma 1)) (C := RX5) (T := TX5) (N := 11) (ci := 5) hx hb hts inX5 hown hK hP 0 rfl rfl 1 (by decide) (hts _ q584) (fun _ h => h) rfl dX5_take_136 ?_
    refine lv_iload_n hx hb dX5_take_139 rfl (lv_at hl 2 rfl) ?_
    refine va_iald (f := (upd (zCnt σ) g.toNatClampNeg ((zCnt σ g.toNatClampNeg) + (1 : Int32)))) hx hb hK hP 1 0 rfl rfl (hT.1) dX5_take_140 ?_
    refine p_top (w := .int ((zCnt σ g.toNatClampNeg) + (1 : Int32))) (by rw [pk_us]) ?_
    exact W.iret hx hb hr (fun t ht hW => ⟨congrArg (fun z => Outcome.returned (some (Value.int z))) (by rw [sX5_take, if_pos h1]), (by unfold hX5_take tX5_take; simp only [if_pos h1]; rw [ht]; exact hP), hS.F ht⟩) hS.2.2 dX5_take_141
def sX5_wipe (σ : St) : Int32 := (zOrd σ)
def hX5_wipe (th : Int32) (σ : St) : Int32 := (0 : Int32)
def tX5_wipe (σ : St) : St := ((zCnt σ), (zNow σ), (zLst σ), (zGst σ), (zSwg σ), (zTrd σ), (zCds σ), (zOps σ), (0 : Int32), (zRfs σ))
theorem nX5_wipe : yX5_wipe.cls ≠ "java/lang/invoke/MethodHandle" ∧ yX5_wipe.cls ≠ "java/lang/invoke/VarHandle" ∧ (parseMethodDescriptor yX5_wipe.desc).map (fun d => d.parameters.length) = some 0 := by decide +kernel
set_option maxHeartbeats 4000000 in
set_option maxRecDepth 100000 in
theorem m_X5_wipe (l : Launch) (D : va_G) (A : Nat → Prop) (cI cJ : ClassId) (ma : Nat → Nat) (th : Int32) (σ : St) (fr : va_W) : IM l yX5_wipe cX5_wipe 2 (some .int) 0 [.ref (ma 0)] (mPre D A cI cJ (MW cI cJ ma th σ fr)) D A (some (.int (sX5_wipe σ))) (MW cI cJ ma (hX5_wipe th σ) (tX5_wipe σ) fr) := by
  refine Met.ofW (cc := cX5_wipe) (maxL := 2) (ret := (some .int)) (by decide) rfl ?_
  intro p e s m args below meth c s₁ B hml hv
  obtain ⟨rfl, hP, hK, hD⟩ := hv
  have hx := B.exec
  have hb := B.bytes
  have hr := B.returns
  have hts : ∀ w ∈ AW, w.before _ s = true := fun w h => atoms_spec (ws := Cond.code yX5_wipe cX5_wipe 2 (some .int) :: AW) B.pre w (List.mem_cons_of_mem _ h)
  have hown : s.vm.findClass RX5 = some m.cls := findClass_of_methodNamed B.named
  have hlocks := B.notSynchronized
  have hS : va_S A s.heap s.heap [] := va_S.rf
  have hl := lv_entry ([.ref (ma 0)]) (n := 2) (Nat.le_of_ble_eq_true rfl)
  rw [lg_entry_eq]
  generalize (lg_sl ([.ref (ma 0)]) ++ List.replicate (2 - (lg_sl ([.ref (ma 0)])).length) Slot.unset).toArray = ls at hl ⊢
  have hl : lv_has ls 2 [(0, .ref (ma 0))] := hl
  refine lv_aload_n hx hb dX5_wipe_0 rfl (lv_at hl 0 rfl) ?_
  refine lv_iconst (v := 0) hx hb dX5_wipe_1 (by decide) ?_
  refine va_put (C := RX5) (T := TX5) (N := 11) (ci := 5) (ty := .int) hx hb hts inX5 tyX5 tyX5_ok nmX5 hown hK hP hD hS 0 rfl rfl 0 (by decide) (hts _ q583) (fun _ h => h) rfl rfl rfl rfl (Nat.le_of_ble_eq_true rfl) dX5_wipe_2 (fun H locs hP hD hS => ?_)
  have hP : va_P D vwCl (MW cI cJ ma (0 : Int32) σ fr) H := hP
  have hD : va_D A (MW cI cJ ma (0 : Int32) σ fr) := hD
  refine lv_aload_n hx hb dX5_wipe_5 rfl (lv_at hl 0 rfl) ?_
  refine va_get (v := .int (zOrd σ)) (C := RX5) (T := TX5) (N := 11) (ci := 5) hx hb hts inX5 hown hK hP 0 rfl rfl 9 (by decide) (hts _ q592) (fun _ h => h) rfl dX5_wipe_6 ?_
  refine lv_istore_n (lv' := [(1, .int (zOrd σ)), (0, .ref (ma 0))]) hx hb dX5_wipe_9 rfl hl (by decide) rfl (fun ls hl => ?_)
  refine lv_aload_n hx hb dX5_wipe_10 rfl (lv_at hl 1 rfl) ?_
  refine lv_iconst (v := 0) hx hb dX5_wipe_11 (by decide) ?_
  refine va_put (C := RX5) (T := TX5) (N := 11) (ci := 5) (ty := .int) hx hb hts inX5 tyX5 tyX5_ok nmX5 hown hK hP hD hS 0 rfl rfl 9 (by decide) (hts _ q592) (fun _ h => h) rfl rfl rfl rfl (Nat.le_of_ble_eq_true rfl) dX5_wipe_12 (fun H locs hP hD hS => ?_)
  have hP : va_P D vwCl (MW cI cJ ma (0 : Int32) ((zCnt σ), (zNow σ), (zLst σ), (zGst σ), (zSwg σ), (zTrd σ), (zCds σ), (zOps σ), (0 : Int32), (zRfs σ)) fr) H := hP
  have hD : va_D A (MW cI cJ ma (0 : Int32) ((zCnt σ), (zNow σ), (zLst σ), (zGst σ), (zSwg σ), (zTrd σ), (zCds σ), (zOps σ), (0 : Int32), (zRfs σ)) fr) := hD
  refine lv_iload_n hx hb dX5_wipe_15 rfl (lv_at hl 0 rfl) ?_
  exact W.iret hx hb hr (fun t ht hW => ⟨rfl, (by rw [ht]; exact hP), hS.F ht⟩) hS.2.2 dX5_wipe_16
def sX5_failed (σ : St) : Int32 := (zRfs σ)
def hX5_failed (th : Int32) (σ : St) : Int32 := (0 : Int32)
def tX5_failed (σ : St) : St := σ
theorem nX5_failed : yX5_failed.cls ≠ "java/lang/invoke/MethodHandle" ∧ yX5_failed.cls ≠ "java/lang/invoke/VarHandle" ∧ (parseMethodDescriptor yX5_failed.desc).map (fun d => d.parameters.length) = some 0 := by decide +kernel
set_option maxHeartbeats 4000000 in
set_option maxRecDepth 100000 in
theorem m_X5_failed (l : Launch) (D : va_G) (A : Nat → Prop) (cI cJ : ClassId) (ma : Nat → Nat) (th : Int32) (σ : St) (fr : va_W) : IM l yX5_failed cX5_failed 1 (some .int) 0 [.ref (ma 0)] (mPre D A cI cJ (MW cI cJ ma th σ fr)) D A (some (.int (sX5_failed σ))) (MW cI cJ ma (hX5_failed th σ) (tX5_failed σ) fr) := by
  refine Met.ofW (cc := cX5_failed) (maxL := 1) (ret := (some .int)) (by decide) rfl ?_
  intro p e s m args below meth c s₁ B hml hv
  obtain ⟨rfl, hP, hK, hD⟩ := hv
  have hx := B.exec
  have hb := B.bytes
  have hr := B.returns
  have hts : ∀ w ∈ AW, w.before _ s = true := fun w h => atoms_spec (ws := Cond.code yX5_failed cX5_failed 1 (some .int) :: AW) B.pre w (List.mem_cons_of_mem _ h)
  have hown : s.vm.findClass RX5 = some m.cls := findClass_of_methodNamed B.named
  have hlocks := B.notSynchronized
  have hS : va_S A s.heap s.heap [] := va_S.rf
  have hl := lv_entry ([.ref (ma 0)]) (n := 1) (Nat.le_of_ble_eq_true rfl)
  rw [lg_entry_eq]
  generalize (lg_sl ([.ref (ma 0)]) ++ List.replicate (1 - (lg_sl ([.ref (ma 0)])).length) Slot.unset).toArray = ls at hl ⊢
  have hl : lv_has ls 1 [(0, .ref (ma 0))] := hl
  refine lv_aload_n hx hb dX5_failed_0 rfl (lv_at hl 0 rfl) ?_
  refine lv_iconst (v := 0) hx hb dX5_failed_1 (by decide) ?_
  refine va_put (C := RX5) (T := TX5) (N := 11) (ci := 5) (ty := .int) hx hb hts inX5 tyX5 tyX5_ok nmX5 hown hK hP hD hS 0 rfl rfl 0 (by decide) (hts _ q583) (fun _ h => h) rfl rfl rfl rfl (Nat.le_of_ble_eq_true rfl) dX5_failed_2 (fun H locs hP hD hS => ?_)
  have hP : va_P D vwCl (MW cI cJ ma (0 : Int32) σ fr) H := hP
  have hD : va_D A (MW cI cJ ma (0 : Int32) σ fr) := hD
  refine lv_aload_n hx hb dX5_failed_5 rfl (lv_at hl 0 rfl) ?_
  refine va_get (v := .int (zRfs σ)) (C := RX5) (T := TX5) (N := 11) (ci := 5) hx hb hts inX5 hown hK hP 0 rfl rfl 10 (by decide) (hts _ q593) (fun _ h => h) rfl dX5_failed_6 ?_
  exact W.iret hx hb hr (fun t ht hW => ⟨rfl, (by rw [ht]; exact hP), hS.F ht⟩) hS.2.2 dX5_failed_9
def sX5_forget_j1 (σ : St) (g : Int32) : Int32 := (if (sX5_isBalance g) = 0 then (1 : Int32) else (0 : Int32))
def sX5_forget (σ : St) (g : Int32) : Int32 := if 0 < (sX5_forget_j1 σ g) then (0 : Int32) else (zCnt σ g.toNatClampNeg)
def hX5_forget (th : Int32) (σ : St) (g : Int32) : Int32 := if 0 < (sX5_forget_j1 σ g) then (sX5_forget_j1 σ g) else (sX5_forget_j1 σ g)
def tX5_forget (σ : St) (g : Int32) : St := if 0 < (sX5_forget_j1 σ g) then σ else ((upd (zCnt σ) g.toNatClampNeg (0 : Int32)), (vp_updL (zNow σ) g.toNatClampNeg (0 : Int64)), (vp_updL (zLst σ) g.toNatClampNeg (0 : Int64)), (vp_updL (zGst σ) g.toNatClampNeg (0 : Int64)), (vp_updL (zSwg σ) g.toNatClampNeg (0 : Int64)), (vp_updL (zTrd σ) g.toNatClampNeg (0 : Int64)), (zCds σ), (zOps σ), (zOrd σ), (zRfs σ))
theorem nX5_forget : yX5_forget.cls ≠ "java/lang/invoke/MethodHandle" ∧ yX5_forget.cls ≠ "java/lang/invoke/VarHandle" ∧ (parseMethodDescriptor yX5_forget.desc).map (fun d => d.parameters.length) = some 1 := by decide +kernel
set_option maxHeartbeats 4000000 in
set_option maxRecDepth 100000 in
theorem m_X5_forget (l : Launch) (D : va_G) (A : Nat → Prop) (cI cJ : ClassId) (ma : Nat → Nat) (th : Int32) (σ : St) (fr : va_W) (g : Int32) (hg : ¬ 0 < sX5_forget_j1 σ g → vp_in g 16) : IM l yX5_forget cX5_forget 3 (some .int) 1 [.ref (ma 0), .int g] (mPre D A cI cJ (MW cI cJ ma th σ fr)) D A (some (.int (sX5_forget σ g))) (MW cI cJ ma (hX5_forget th σ g) (tX5_forget σ g) fr) := by
  refine Met.ofW (cc := cX5_forget) (maxL := 3) (ret := (some .int)) (by decide) rfl ?_
  intro p e s m args below meth c s₁ B hml hv
  obtain ⟨rfl, hP, hK, hD⟩ := hv
  have hx := B.exec
  have hb := B.bytes
  have hr := B.returns
  have hts : ∀ w ∈ AW, w.before _ s = true := fun w h => atoms_spec (ws := Cond.code yX5_forget cX5_forget 3 (some .int) :: AW) B.pre w (List.mem_cons_of_mem _ h)
  have hown : s.vm.findClass RX5 = some m.cls := findClass_of_methodNamed B.named
  have hlocks := B.notSynchronized
  have hS : va_S A s.heap s.heap [] := va_S.rf
  have hl := lv_entry ([.ref (ma 0), .int g]) (n := 3) (Nat.le_of_ble_eq_true rfl)
  rw [lg_entry_eq]
  generalize (lg_sl ([.ref (ma 0), .int g]) ++ List.replicate (3 - (lg_sl ([.ref (ma 0), .int g])).length) Slot.unset).toArray = ls at hl ⊢
  have hl : lv_has ls 3 [(0, .ref (ma 0)), (1, .int g)] := hl
  refine lv_aload_n hx hb dX5_forget_0 rfl (lv_at hl 0 rfl) ?_
  refine lv_iload_n hx hb dX5_forget_1 rfl (lv_at hl 1 rfl) ?_
  refine p_S (rest := [.ref (ma 0)]) hx hb hml hown hts (m_X5_isBalance l g) q626 q627 q26 q628 nX5_isBalance ⟨Nat.le_of_ble_eq_true rfl, Nat.le_of_ble_eq_true rfl⟩ hl.1 rfl rfl (Nat.le_of_ble_eq_true rfl) dX5_forget_2 ⟨Nat.zero_le _, Nat.zero_le _⟩ blind_c (fun _ _ _ => trivial) ?_
  refine p_join (J := 13) (nL := 3) (st := [.int (sX5_forget_j1 σ g), .ref (ma 0)]) (lv := [(0, .ref (ma 0)), (1, .int g)]) (fun ls hl => ?_) (fun K1 => ?_)
  rotate_left
  · refine c_if_ne (tgt := 12) hx hb dX5_forget_5 (by decide) (fun h1 => ?_) (fun h1 => ?_)
    · skip
      refine lv_iconst (v := 0) hx hb dX5_forget_12 (by decide) ?_
      simp only [sX5_forget_j1, if_neg h1] at K1
      exact K1 ls (lv_sub hl [0, 1] rfl)
    · skip
      refine lv_iconst (v := 1) hx hb dX5_forget_8 (by decide) ?_
      refine lv_goto (tgt := 13) hx hb dX5_forget_9 (by decide) ?_
      simp only [sX5_forget_j1, if_pos h1] at K1
      exact K1 ls (lv_sub hl [0, 1] rfl)
  refine va_put (C := RX5) (T := TX5) (N := 11) (ci := 5) (ty := .int) hx hb hts inX5 tyX5 tyX5_ok nmX5 hown hK hP hD hS 0 rfl rfl 0 (by decide) (hts _ q583) (fun _ h => h) rfl rfl rfl rfl (Nat.le_of_ble_eq_true rfl) dX5_forget_13 (fun H locs hP hD hS => ?_)
  have hP : va_P D vwCl (MW cI cJ ma (sX5_forget_j1 σ g) σ fr) H := hP
  have hD : va_D A (MW cI cJ ma (sX5_forget_j1 σ g) σ fr) := hD
  refine lv_aload_n hx hb dX5_forget_16 rfl (lv_at hl 0 rfl) ?_
  refine va_get (v := .int (sX5_forget_j1 σ g)) (C := RX5) (T := TX5) (N := 11) (ci := 5) hx hb hts inX5 hown hK hP 0 rfl rfl 0 (by decide) (hts _ q583) (fun _ h => h) rfl dX5_forget_17 ?_
  refine c_if_le (tgt := 25) hx hb dX5_forget_20 (by decide) (fun h2 => ?_) (fun h2 => ?_)
  · skip
    refine lv_aload_n hx hb dX5_forget_25 rfl (lv_at hl 0 rfl) ?_
    refine va_get (v := .ref (ma 1)) (C := RX5) (T := TX5) (N := 11) (ci := 5) hx hb hts inX5 hown hK hP 0 rfl rfl 1 (by decide) (hts _ q584) (fun _ h => h) rfl dX5_forget_26 ?_
    refine lv_iload_n hx hb dX5_forget_29 rfl (lv_at hl 1 rfl) ?_
    refine va_iald (f := (zCnt σ)) hx hb hK hP 1 0 rfl rfl (hg (by assumption)) dX5_forget_30 ?_
    refine lv_istore_n (lv' := [(2, .int (zCnt σ g.toNatClampNeg)), (0, .ref (ma 0)), (1, .int g)]) hx hb dX5_forget_31 rfl hl (by decide) rfl (fun ls hl => ?_)
    refine lv_aload_n hx hb dX5_forget_32 rfl (lv_at hl 1 rfl) ?_
    refine va_get (v := .ref (ma 1)) (C := RX5) (T := TX5) (N := 11) (ci := 5) hx hb hts inX5 hown hK hP 0 rfl rfl 1 (by decide) (hts _ q584) (fun _ h => h) rfl dX5_forget_33 ?_
    refine lv_iload_n hx hb dX5_forget_36 rfl (lv_at hl 2 rfl) ?_
    refine lv_iconst (v := 0) hx hb dX5_forget_37 (by decide) ?_
    refine va_iast (f := (zCnt σ)) hx hb hK hP hD hS 1 0 rfl rfl (hg (by assumption)) dX5_forget_38 (fun H locs hP hD hS => ?_)
    have hP : va_P D vwCl (MW cI cJ ma (sX5_forget_j1 σ g) ((upd (zCnt σ) g.toNatClampNeg (0 : Int32)), (zNow σ), (zLst σ), (zGst σ), (zSwg σ), (zTrd σ), (zCds σ), (zOps σ), (zOrd σ), (zRfs σ)) fr) H := hP
    have hD : va_D A (MW cI cJ ma (sX5_forget_j1 σ g) ((upd (zCnt σ) g.toNatClampNeg (0 : Int32)), (zNow σ), (zLst σ), (zGst σ), (zSwg σ), (zTrd σ), (zCds σ), (zOps σ), (zOrd σ), (zRfs σ)) fr) := hD
    refine lv_aload_n hx hb dX5_forget_39 rfl (lv_at hl 1 rfl) ?_
    refine va_get (v := .ref (ma 2)) (C := RX5) (T := TX5) (N := 11) (ci := 5) hx hb hts inX5 hown hK hP 0 rfl rfl 2 (by decide) (hts _ q585) (fun _ h => h) rfl dX5_forget_40 ?_
    refine lv_iload_n hx hb dX5_forget_43 rfl (lv_at hl 2 rfl) ?_
    refine lv_lconst (v := 0) hx hb dX5_forget_44 (by decide) ?_
    refine va_last (f := (zNow σ)) hx hb hK hP hD hS 2 1 rfl rfl (hg (by assumption)) dX5_forget_45 (fun H locs hP hD hS => ?_)
    have hP : va_P D vwCl (MW cI cJ ma (sX5_forget_j1 σ g) ((upd (zCnt σ) g.toNatClampNeg (0 : Int32)), (vp_updL (zNow σ) g.toNatClampNeg (0 : Int64)), (zLst σ), (zGst σ), (zSwg σ), (zTrd σ), (zCds σ), (zOps σ), (zOrd σ), (zRfs σ)) fr) H := hP
    have hD : va_D A (MW cI cJ ma (sX5_forget_j1 σ g) ((upd (zCnt σ) g.toNatClampNeg (0 : Int32)), (vp_updL (zNow σ) g.toNatClampNeg (0 : Int64)), (zLst σ), (zGst σ), (zSwg σ), (zTrd σ), (zCds σ), (zOps σ), (zOrd σ), (zRfs σ)) fr) := hD
    refine lv_aload_n hx hb dX5_forget_46 rfl (lv_at hl 1 rfl) ?_
    refine va_get (v := .ref (ma 3)) (C := RX5) (T := TX5) (N := 11) (ci := 5) hx hb hts inX5 hown hK hP 0 rfl rfl 3 (by decide) (hts _ q586) (fun _ h => h) rfl dX5_forget_47 ?_
    refine lv_iload_n hx hb dX5_forget_50 rfl (lv_at hl 2 rfl) ?_
    refine lv_lconst (v := 0) hx hb dX5_forget_51 (by decide) ?_
    refine va_last (f := (zLst σ)) hx hb hK hP hD hS 3 1 rfl rfl (hg (by assumption)) dX5_forget_52 (fun H locs hP hD hS => ?_)
    have hP : va_P D vwCl (MW cI cJ ma (sX5_forget_j1 σ g) ((upd (zCnt σ) g.toNatClampNeg (0 : Int32)), (vp_updL (zNow σ) g.toNatClampNeg (0 : Int64)), (vp_updL (zLst σ) g.toNatClampNeg (0 : Int64)), (zGst σ), (zSwg σ), (zTrd σ), (zCds σ), (zOps σ), (zOrd σ), (zRfs σ)) fr) H := hP
    have hD : va_D A (MW cI cJ ma (sX5_forget_j1 σ g) ((upd (zCnt σ) g.toNatClampNeg (0 : Int32)), (vp_updL (zNow σ) g.toNatClampNeg (0 : Int64)), (vp_updL (zLst σ) g.toNatClampNeg (0 : Int64)), (zGst σ), (zSwg σ), (zTrd σ), (zCds σ), (zOps σ), (zOrd σ), (zRfs σ)) fr) := hD
    refine lv_aload_n hx hb dX5_forget_53 rfl (lv_at hl 1 rfl) ?_
    refine va_get (v := .ref (ma 4)) (C := RX5) (T := TX5) (N := 11) (ci := 5) hx hb hts inX5 hown hK hP 0 rfl rfl 4 (by decide) (hts _ q587) (fun _ h => h) rfl dX5_forget_54 ?_
    refine lv_iload_n hx hb dX5_forget_57 rfl (lv_at hl 2 rfl) ?_
    refine lv_lconst (v := 0) hx hb dX5_forget_58 (by decide) ?_
    refine va_last (f := (zGst σ)) hx hb hK hP hD hS 4 1 rfl rfl (hg (by assumption)) dX5_forget_59 (fun H locs hP hD hS => ?_)
    have hP : va_P D vwCl (MW cI cJ ma (sX5_forget_j1 σ g) ((upd (zCnt σ) g.toNatClampNeg (0 : Int32)), (vp_updL (zNow σ) g.toNatClampNeg (0 : Int64)), (vp_updL (zLst σ) g.toNatClampNeg (0 : Int64)), (vp_updL (zGst σ) g.toNatClampNeg (0 : Int64)), (zSwg σ), (zTrd σ), (zCds σ), (zOps σ), (zOrd σ), (zRfs σ)) fr) H := hP
    have hD : va_D A (MW cI cJ ma (sX5_forget_j1 σ g) ((upd (zCnt σ) g.toNatClampNeg (0 : Int32)), (vp_updL (zNow σ) g.toNatClampNeg (0 : Int64)), (vp_updL (zLst σ) g.toNatClampNeg (0 : Int64)), (vp_updL (zGst σ) g.toNatClampNeg (0 : Int64)), (zSwg σ), (zTrd σ), (zCds σ), (zOps σ), (zOrd σ), (zRfs σ)) fr) := hD
    refine lv_aload_n hx hb dX5_forget_60 rfl (lv_at hl 1 rfl) ?_
    refine va_get (v := .ref (ma 5)) (C := RX5) (T := TX5) (N := 11) (ci := 5) hx hb hts inX5 hown hK hP 0 rfl rfl 5 (by decide) (hts _ q588) (fun _ h => h) rfl dX5_forget_61 ?_
    refine lv_iload_n hx hb dX5_forget_64 rfl (lv_at hl 2 rfl) ?_
    refine lv_lconst (v := 0) hx hb dX5_forget_65 (by decide) ?_
    refine va_last (f := (zSwg σ)) hx hb hK hP hD hS 5 1 rfl rfl (hg (by assumption)) dX5_forget_66 (fun H locs hP hD hS => ?_)
    have hP : va_P D vwCl (MW cI cJ ma (sX5_forget_j1 σ g) ((upd (zCnt σ) g.toNatClampNeg (0 : Int32)), (vp_updL (zNow σ) g.toNatClampNeg (0 : Int64)), (vp_updL (zLst σ) g.toNatClampNeg (0 : Int64)), (vp_updL (zGst σ) g.toNatClampNeg (0 : Int64)), (vp_updL (zSwg σ) g.toNatClampNeg (0 : Int64)), (zTrd σ), (zCds σ), (zOps σ), (zOrd σ), (zRfs σ)) fr) H := hP
    have hD : va_D A (MW cI cJ ma (sX5_forget_j1 σ g) ((upd (zCnt σ) g.toNatClampNeg (0 : Int32)), (vp_updL (zNow σ) g.toNatClampNeg (0 : Int64)), (vp_updL (zLst σ) g.toNatClampNeg (0 : Int64)), (vp_updL (zGst σ) g.toNatClampNeg (0 : Int64)), (vp_updL (zSwg σ) g.toNatClampNeg (0 : Int64)), (zTrd σ), (zCds σ), (zOps σ), (zOrd σ), (zRfs σ)) fr) := hD
    refine lv_aload_n hx hb dX5_forget_67 rfl (lv_at hl 1 rfl) ?_
    refine va_get (v := .ref (ma 6)) (C := RX5) (T := TX5) (N := 11) (ci := 5) hx hb hts inX5 hown hK hP 0 rfl rfl 6 (by decide) (hts _ q589) (fun _ h => h) rfl dX5_forget_68 ?_
    refine lv_iload_n hx hb dX5_forget_71 rfl (lv_at hl 2 rfl) ?_
    refine lv_lconst (v := 0) hx hb dX5_forget_72 (by decide) ?_
    refine va_last (f := (zTrd σ)) hx hb hK hP hD hS 6 1 rfl rfl (hg (by assumption)) dX5_forget_73 (fun H locs hP hD hS => ?_)
    have hP : va_P D vwCl (MW cI cJ ma (sX5_forget_j1 σ g) ((upd (zCnt σ) g.toNatClampNeg (0 : Int32)), (vp_updL (zNow σ) g.toNatClampNeg (0 : Int64)), (vp_updL (zLst σ) g.toNatClampNeg (0 : Int64)), (vp_updL (zGst σ) g.toNatClampNeg (0 : Int64)), (vp_updL (zSwg σ) g.toNatClampNeg (0 : Int64)), (vp_updL (zTrd σ) g.toNatClampNeg (0 : Int64)), (zCds σ), (zOps σ), (zOrd σ), (zRfs σ)) fr) H := hP
    have hD : va_D A (MW cI cJ ma (sX5_forget_j1 σ g) ((upd (zCnt σ) g.toNatClampNeg (0 : Int32)), (vp_updL (zNow σ) g.toNatClampNeg (0 : Int64)), (vp_updL (zLst σ) g.toNatClampNeg (0 : Int64)), (vp_updL (zGst σ) g.toNatClampNeg (0 : Int64)), (vp_updL (zSwg σ) g.toNatClampNeg (0 : Int64)), (vp_updL (zTrd σ) g.toNatClampNeg (0 : Int64)), (zCds σ), (zOps σ), (zOrd σ), (zRfs σ)) fr) := hD
    refine lv_iload_n hx hb dX5_forget_74 rfl (lv_at hl 0 rfl) ?_
    exact W.iret hx hb hr (fun t ht hW => ⟨congrArg (fun z => Outcome.returned (some (Value.int z))) (by rw [sX5_forget, if_neg h2]), (by unfold hX5_forget tX5_forget; simp only [if_neg h2]; rw [ht]; exact hP), hS.F ht⟩) hS.2.2 dX5_forget_75
  · skip
    refine lv_iconst (v := 0) hx hb dX5_forget_23 (by decide) ?_
    exact W.iret hx hb hr (fun t ht hW => ⟨congrArg (fun z => Outcome.returned (some (Value.int z))) (by rw [sX5_forget, if_pos h2]), (by unfold hX5_forget tX5_forget; simp only [if_pos h2]; rw [ht]; exact hP), hS.F ht⟩) hS.2.2 dX5_forget_24
def sX5_read_j1 (σ : St) (g : Int32) (v : Int64) : Int64 := (if (g / (4 : Int32)) = 0 then v.toInt32.toInt64 else (if (g / (4 : Int32)) = (2 : Int32) then v.toInt32.toInt64 else v))
def sX5_read (σ : St) (g : Int32) (v : Int64) : Int32 := if (sX5_isBalance g) = 0 then (0 : Int32) else if (sX5_isNone (g / (4 : Int32)) (sX5_read_j1 σ g v)) = 0 then (sX5_take σ g (sX5_read_j1 σ g v)) else (0 : Int32)
def hX5_read (th : Int32) (σ : St) (g : Int32) (v : Int64) : Int32 := if (sX5_isBalance g) = 0 then (1 : Int32) else if (sX5_isNone (g / (4 : Int32)) (sX5_read_j1 σ g v)) = 0 then (hX5_take (0 : Int32) σ g (sX5_read_j1 σ g v)) else (1 : Int32)
def tX5_read (σ : St) (g : Int32) (v : Int64) : St := if (sX5_isBalance g) = 0 then σ else if (sX5_isNone (g / (4 : Int32)) (sX5_read_j1 σ g v)) = 0 then (tX5_take σ g (sX5_read_j1 σ g v)) else σ
theorem nX5_read : yX5_read.cls ≠ "java/lang/invoke/MethodHandle" ∧ yX5_read.cls ≠ "java/lang/invoke/VarHandle" ∧ (parseMethodDescriptor yX5_read.desc).map (fun d => d.parameters.length) = some 2 := by decide +kernel
set_option maxHeartbeats 4000000 in
set_option maxRecDepth 100000 in
theorem m_X5_read (l : Launch) (D : va_G) (A : Nat → Prop) (cI cJ : ClassId) (ma : Nat → Nat) (th : Int32) (σ : St) (fr : va_W) (g : Int32) (v : Int64) (hT : ¬ sX5_isBalance g = 0 → sX5_isNone (g / 4) (sX5_read_j1 σ g v) = 0 → takeOK σ g (sX5_read_j1 σ g v)) : IM l yX5_read cX5_read 7 (some .int) 5 [.ref (ma 0), .int g, .long v] (mPre D A cI cJ (MW cI cJ ma th σ fr)) D A (some (.int (sX5_read σ g v))) (MW cI cJ ma (hX5_read th σ g v) (tX5_read σ g v) fr) := by
  refine Met.ofW (cc := cX5_read) (maxL := 7) (ret := (some .int)) (by decide) rfl ?_
  intro p e s m args below meth c s₁ B hml hv
  obtain ⟨rfl, hP, hK, hD⟩ := hv
  have hx := B.exec
  have hb := B.bytes
  have hr := B.returns
  have hts : ∀ w ∈ AW, w.before _ s = true := fun w h => atoms_spec (ws := Cond.code yX5_read cX5_read 7 (some .int) :: AW) B.pre w (List.mem_cons_of_mem _ h)
  have hown : s.vm.findClass RX5 = some m.cls := findClass_of_methodNamed B.named
  have hlocks := B.notSynchronized
  have hS : va_S A s.heap s.heap [] := va_S.rf
  have hl := lv_entry ([.ref (ma 0), .int g, .long v]) (n := 7) (Nat.le_of_ble_eq_true rfl)
  rw [lg_entry_eq]
  generalize (lg_sl ([.ref (ma 0), .int g, .long v]) ++ List.replicate (7 - (lg_sl ([.ref (ma 0), .int g, .long v])).length) Slot.unset).toArray = ls at hl ⊢
  have hl : lv_has ls 7 [(0, .ref (ma 0)), (1, .int g), (2, .long v)] := hl
  refine lv_aload_n hx hb dX5_read_0 rfl (lv_at hl 0 rfl) ?_
  refine lv_iconst (v := 1) hx hb dX5_read_1 (by decide) ?_
  refine va_put (C := RX5) (T := TX5) (N := 11) (ci := 5) (ty := .int) hx hb hts inX5 tyX5 tyX5_ok nmX5 hown hK hP hD hS 0 rfl rfl 0 (by decide) (hts _ q583) (fun _ h => h) rfl rfl rfl rfl (Nat.le_of_ble_eq_true rfl) dX5_read_2 (fun H locs hP hD hS => ?_)
  have hP : va_P D vwCl (MW cI cJ ma (1 : Int32) σ fr) H := hP
  have hD : va_D A (MW cI cJ ma (1 : Int32) σ fr) := hD
  refine lv_iload_n hx hb dX5_read_5 rfl (lv_at hl 1 rfl) ?_
  refine p_S (rest := []) hx hb hml hown hts (m_X5_isBalance l g) q626 q627 q26 q628 nX5_isBalance ⟨Nat.le_of_ble_eq_true rfl, Nat.le_of_ble_eq_true rfl⟩ hl.1 rfl rfl (Nat.le_of_ble_eq_true rfl) dX5_read_6 ⟨Nat.zero_le _, Nat.zero_le _⟩ blind_c (fun _ _ _ => trivial) ?_
  refine c_if_ne (tgt := 14) hx hb dX5_read_9 (by decide) (fun h1 => ?_) (fun h1 => ?_)
  · skip
    refine lv_iload_n hx hb dX5_read_14 rfl (lv_at hl 1 rfl) ?_
    refine lv_iconst (v := 4) hx hb dX5_read_15 (by decide) ?_
    refine lv_idiv hx hb dX5_read_16 (by decide) ?_
    refine lv_istore (lv' := [(4, .int (g / (4 : Int32))), (0, .ref (ma 0)), (1, .int g), (2, .long v)]) hx hb dX5_read_17 hl (by decide) rfl (fun ls hl => ?_)
    refine lv_iload hx hb dX5_read_19 (lv_at hl 0 rfl) ?_
    refine p_join (J := 37) (nL := 7) (st := [.long (sX5_read_j1 σ g v)]) (lv := [(4, .int (g / (4 : Int32))), (0, .ref (ma 0)), (1, .int g), (2, .long v)]) (fun ls hl => ?_) (fun K2 => ?_)
    rotate_left
    · refine c_if_eq (tgt := 30) hx hb dX5_read_21 (by decide) (fun h2 => ?_) (fun h2 => ?_)
      · skip
        refine lv_lload_n hx hb dX5_read_30 rfl (lv_at hl 3 rfl) ?_
        refine lv_l2i hx hb dX5_read_31 rfl ?_
        refine lv_i2l hx hb dX5_read_32 rfl ?_
        refine lv_goto (tgt := 37) hx hb dX5_read_33 (by decide) ?_
        simp only [sX5_read_j1, if_pos h2] at K2
        exact K2 ls (lv_sub hl [0, 1, 2, 3] rfl)
      · skip
        refine lv_iload hx hb dX5_read_24 (lv_at hl 0 rfl) ?_
        refine lv_iconst (v := 2) hx hb dX5_read_26 (by decide) ?_
        refine c_icmp_ne (tgt := 36) hx hb dX5_read_27 (by decide) (fun h3 => ?_) (fun h3 => ?_)
        · skip
          refine lv_lload_n hx hb dX5_read_36 rfl (lv_at hl 3 rfl) ?_
          simp only [sX5_read_j1, if_neg h2, if_neg h3] at K2
          exact K2 ls (lv_sub hl [0, 1, 2, 3] rfl)
        · skip
          refine lv_lload_n hx hb dX5_read_30 rfl (lv_at hl 3 rfl) ?_
          refine lv_l2i hx hb dX5_read_31 rfl ?_
          refine lv_i2l hx hb dX5_read_32 rfl ?_
          refine lv_goto (tgt := 37) hx hb dX5_read_33 (by decide) ?_
          simp only [sX5_read_j1, if_neg h2, if_pos h3] at K2
          exact K2 ls (lv_sub hl [0, 1, 2, 3] rfl)
    refine lv_lstore (lv' := [(5, .long (sX5_read_j1 σ g v)), (4, .int (g / (4 : Int32))), (0, .ref (ma 0)), (1, .int g), (2, .long v)]) hx hb dX5_read_37 hl (by decide) rfl (fun ls hl => ?_)
    refine lv_iload hx hb dX5_read_39 (lv_at hl 1 rfl) ?_
    refine lv_lload hx hb dX5_read_41 (lv_at hl 0 rfl) ?_
    refine p_S (rest := []) hx hb hml hown hts (m_X5_isNone l (g / (4 : Int32)) (sX5_read_j1 σ g v)) q629 q630 q26 q631 nX5_isNone ⟨Nat.le_of_ble_eq_true rfl, Nat.le_of_ble_eq_true rfl⟩ hl.1 rfl rfl (Nat.le_of_ble_eq_true rfl) dX5_read_43 ⟨Nat.zero_le _, Nat.zero_le _⟩ blind_c (fun _ _ _ => trivial) ?_
    refine c_if_eq (tgt := 51) hx hb dX5_read_46 (by decide) (fun h4 => ?_) (fun h4 => ?_)
    · skip
      refine lv_aload_n hx hb dX5_read_51 rfl (lv_at hl 2 rfl) ?_
      refine lv_iconst (v := 0) hx hb dX5_read_52 (by decide) ?_
      refine va_put (C := RX5) (T := TX5) (N := 11) (ci := 5) (ty := .int) hx hb hts inX5 tyX5 tyX5_ok nmX5 hown hK hP hD hS 0 rfl rfl 0 (by decide) (hts _ q583) (fun _ h => h) rfl rfl rfl rfl (Nat.le_of_ble_eq_true rfl) dX5_read_53 (fun H locs hP hD hS => ?_)
      have hP : va_P D vwCl (MW cI cJ ma (0 : Int32) σ fr) H := hP
      have hD : va_D A (MW cI cJ ma (0 : Int32) σ fr) := hD
      refine lv_aload_n hx hb dX5_read_56 rfl (lv_at hl 2 rfl) ?_
      refine lv_iload_n hx hb dX5_read_57 rfl (lv_at hl 3 rfl) ?_
      refine lv_lload hx hb dX5_read_58 (lv_at hl 0 rfl) ?_
      refine i_V (C := RX5) (rest := []) hx hb hml hown hts (m_X5_take l D A cI cJ ma (0 : Int32) σ fr g (sX5_read_j1 σ g v) (hT (by assumption) (by assumption))) q636 q638 q16 q26 q639 rfl nX5_take ⟨Nat.le_of_ble_eq_true rfl, Nat.le_of_ble_eq_true rfl⟩ hl.1 rfl rfl (Nat.le_of_ble_eq_true rfl) dX5_read_60 ⟨Nat.zero_le _, Nat.zero_le _⟩ mPre_bl (va_recv hK hP (ci := 5) (q0 := 0) rfl rfl) (mPre_go hP hK hD) hS (fun H locs hP hS => ?_)
      have hD := mw_D (th' := (hX5_take (0 : Int32) σ g (sX5_read_j1 σ g v))) (σ' := (tX5_take σ g (sX5_read_j1 σ g v))) hD
      have hP : va_P D vwCl (MW cI cJ ma (hX5_take (0 : Int32) σ g (sX5_read_j1 σ g v)) (tX5_take σ g (sX5_read_j1 σ g v)) fr) H := hP
      have hD : va_D A (MW cI cJ ma (hX5_take (0 : Int32) σ g (sX5_read_j1 σ g v)) (tX5_take σ g (sX5_read_j1 σ g v)) fr) := hD
      exact W.iret hx hb hr (fun t ht hW => ⟨congrArg (fun z => Outcome.returned (some (Value.int z))) (by rw [sX5_read, if_neg h1, if_pos h4]), (by unfold hX5_read tX5_read; simp only [if_neg h1, if_pos h4]; rw [ht]; exact hP), hS.F ht⟩) hS.2.2 dX5_read_63
    · skip
      refine lv_iconst (v := 0) hx hb dX5_read_49 (by decide) ?_
      exact W.iret hx hb hr (fun t ht hW => ⟨congrArg (fun z => Outcome.returned (some (Value.int z))) (by rw [sX5_read, if_neg h1, if_neg h4]), (by unfold hX5_read tX5_read; simp only [if_neg h1, if_neg h4]; rw [ht]; exact hP), hS.F ht⟩) hS.2.2 dX5_read_50
  · skip
    refine lv_iconst (v := 0) hx hb dX5_read_12 (by decide) ?_
    exact W.iret hx hb hr (fun t ht hW => ⟨congrArg (fun z => Outcome.returned (some (Value.int z))) (by rw [sX5_read, if_pos h1]), (by unfold hX5_read tX5_read; simp only [if_pos h1]; rw [ht]; exact hP), hS.F ht⟩) hS.2.2 dX5_read_13
def sX5_order_j1 (σ : St) (a : Int32) (k : Int32) : Int32 := (if (sX5_asks a) = 0 then (if a = (8 : Int32) then (20 : Int32) else (0 : Int32)) else (15 : Int32))
def sX5_order_j2 (σ : St) (a : Int32) (k : Int32) : Int32 := (if a < 0 then (1 : Int32) else (if (12 : Int32) < a then (1 : Int32) else (if k < 0 then (1 : Int32) else (if (sX5_order_j1 σ a k) < k then (1 : Int32) else (if (zOrd σ) = (12 : Int32) then (2 : Int32) else (0 : Int32))))))
def sX5_order (σ : St) (a : Int32) (k : Int32) : Int32 := if 0 < (sX5_order_j2 σ a k) then (0 : Int32) else ((zOrd σ) + (1 : Int32))
def hX5_order (th : Int32) (σ : St) (a : Int32) (k : Int32) : Int32 := if 0 < (sX5_order_j2 σ a k) then (sX5_order_j2 σ a k) else (sX5_order_j2 σ a k)
def tX5_order (σ : St) (a : Int32) (k : Int32) : St := if 0 < (sX5_order_j2 σ a k) then σ else ((zCnt σ), (zNow σ), (zLst σ), (zGst σ), (zSwg σ), (zTrd σ), (upd (zCds σ) (zOrd σ).toNatClampNeg a), (upd (zOps σ) (zOrd σ).toNatClampNeg k), ((zOrd σ) + (1 : Int32)), (zRfs σ))
theorem nX5_order : yX5_order.cls ≠ "java/lang/invoke/MethodHandle" ∧ yX5_order.cls ≠ "java/lang/invoke/VarHandle" ∧ (parseMethodDescriptor yX5_order.desc).map (fun d => d.parameters.length) = some 2 := by decide +kernel
set_option maxHeartbeats 4000000 in
set_option maxRecDepth 100000 in
theorem m_X5_order (l : Launch) (D : va_G) (A : Nat → Prop) (cI cJ : ClassId) (ma : Nat → Nat) (th : Int32) (σ : St) (fr : va_W) (a : Int32) (k : Int32) (hI : ¬ 0 < sX5_order_j2 σ a k → vp_in (zOrd σ) 12) : IM l yX5_order cX5_order 4 (some .int) 1 [.ref (ma 0), .int a, .int k] (mPre D A cI cJ (MW cI cJ ma th σ fr)) D A (some (.int (sX5_order σ a k))) (MW cI cJ ma (hX5_order th σ a k) (tX5_order σ a k) fr) := by
  refine Met.ofW (cc := cX5_order) (maxL := 4) (ret := (some .int)) (by decide) rfl ?_
  intro p e s m args below meth c s₁ B hml hv
  obtain ⟨rfl, hP, hK, hD⟩ := hv
  have hx := B.exec
  have hb := B.bytes
  have hr := B.returns
  have hts : ∀ w ∈ AW, w.before _ s = true := fun w h => atoms_spec (ws := Cond.code yX5_order cX5_order 4 (some .int) :: AW) B.pre w (List.mem_cons_of_mem _ h)
  have hown : s.vm.findClass RX5 = some m.cls := findClass_of_methodNamed B.named
  have hlocks := B.notSynchronized
  have hS : va_S A s.heap s.heap [] := va_S.rf
  have hl := lv_entry ([.ref (ma 0), .int a, .int k]) (n := 4) (Nat.le_of_ble_eq_true rfl)
  rw [lg_entry_eq]
  generalize (lg_sl ([.ref (ma 0), .int a, .int k]) ++ List.replicate (4 - (lg_sl ([.ref (ma 0), .int a, .int k])).length) Slot.unset).toArray = ls at hl ⊢
  have hl : lv_has ls 4 [(0, .ref (ma 0)), (1, .int a), (2, .int k)] := hl
  refine lv_iload_n hx hb dX5_order_0 rfl (lv_at hl 1 rfl) ?_
  refine p_S (rest := []) hx hb hml hown hts (m_X5_asks l a) q716 q717 q26 q718 nX5_asks ⟨Nat.le_of_ble_eq_true rfl, Nat.le_of_ble_eq_true rfl⟩ hl.1 rfl rfl (Nat.le_of_ble_eq_true rfl) dX5_order_1 ⟨Nat.zero_le _, Nat.zero_le _⟩ blind_c (fun _ _ _ => trivial) ?_
  refine p_join (J := 24) (nL := 4) (st := [.int (sX5_order_j1 σ a k)]) (lv := [(0, .ref (ma 0)), (1, .int a), (2, .int k)]) (fun ls hl => ?_) (fun K1 => ?_)
  rotate_left
  · refine c_if_eq (tgt := 12) hx hb dX5_order_4 (by decide) (fun h1 => ?_) (fun h1 => ?_)
    · skip
      refine lv_iload_n hx hb dX5_order_12 rfl (lv_at hl 1 rfl) ?_
      refine lv_bipush (v := 8) hx hb dX5_order_13 (by decide) ?_
      refine c_icmp_ne (tgt := 23) hx hb dX5_order_15 (by decide) (fun h2 => ?_) (fun h2 => ?_)
      · skip
        refine lv_iconst (v := 0) hx hb dX5_order_23 (by decide) ?_
        simp only [sX5_order_j1, if_pos h1, if_neg h2] at K1
        exact K1 ls (lv_sub hl [0, 1, 2] rfl)
      · skip
        refine lv_bipush (v := 20) hx hb dX5_order_18 (by decide) ?_
        refine lv_goto (tgt := 24) hx hb dX5_order_20 (by decide) ?_
        simp only [sX5_order_j1, if_pos h1, if_pos h2] at K1
        exact K1 ls (lv_sub hl [0, 1, 2] rfl)
    · skip
      refine lv_bipush (v := 15) hx hb dX5_order_7 (by decide) ?_
      refine lv_goto (tgt := 24) hx hb dX5_order_9 (by decide) ?_
      simp only [sX5_order_j1, if_neg h1] at K1
      exact K1 ls (lv_sub hl [0, 1, 2] rfl)
  refine lv_istore_n (lv' := [(3, .int (sX5_order_j1 σ a k)), (0, .ref (ma 0)), (1, .int a), (2, .int k)]) hx hb dX5_order_24 rfl hl (by decide) rfl (fun ls hl => ?_)
  refine lv_aload_n hx hb dX5_order_25 rfl (lv_at hl 1 rfl) ?_
  refine lv_iload_n hx hb dX5_order_26 rfl (lv_at hl 2 rfl) ?_
  refine p_join (J := 63) (nL := 4) (st := [.int (sX5_order_j2 σ a k), .ref (ma 0)]) (lv := [(3, .int (sX5_order_j1 σ a k)), (0, .ref (ma 0)), (1, .int a), (2, .int k)]) (fun ls hl => ?_) (fun K3 => ?_)
  rotate_left
  · refine c_if_lt (tgt := 45) hx hb dX5_order_27 (by decide) (fun h3 => ?_) (fun h3 => ?_)
    · skip
      refine lv_iconst (v := 1) hx hb dX5_order_45 (by decide) ?_
      refine lv_goto (tgt := 63) hx hb dX5_order_46 (by decide) ?_
      simp only [sX5_order_j2, if_pos h3] at K3
      exact K3 ls (lv_sub hl [0, 1, 2, 3] rfl)
    · skip
      refine lv_iload_n hx hb dX5_order_30 rfl (lv_at hl 2 rfl) ?_
      refine lv_bipush (v := 12) hx hb dX5_order_31 (by decide) ?_
      refine c_icmp_gt (tgt := 45) hx hb dX5_order_33 (by decide) (fun h4 => ?_) (fun h4 => ?_)
      · skip
        refine lv_iconst (v := 1) hx hb dX5_order_45 (by decide) ?_
        refine lv_goto (tgt := 63) hx hb dX5_order_46 (by decide) ?_
        simp only [sX5_order_j2, if_neg h3, if_pos h4] at K3
        exact K3 ls (lv_sub hl [0, 1, 2, 3] rfl)
      · skip
        refine lv_iload_n hx hb dX5_order_36 rfl (lv_at hl 3 rfl) ?_
        refine c_if_lt (tgt := 45) hx hb dX5_order_37 (by decide) (fun h5 => ?_) (fun h5 => ?_)
        · skip
          refine lv_iconst (v := 1) hx hb dX5_order_45 (by decide) ?_
          refine lv_goto (tgt := 63) hx hb dX5_order_46 (by decide) ?_
          simp only [sX5_order_j2, if_neg h3, if_neg h4, if_pos h5] at K3
          exact K3 ls (lv_sub hl [0, 1, 2, 3] rfl)
        · skip
          refine lv_iload_n hx hb dX5_order_40 rfl (lv_at hl 3 rfl) ?_
          refine lv_iload_n hx hb dX5_order_41 rfl (lv_at hl 0 rfl) ?_
          refine c_icmp_le (tgt := 49) hx hb dX5_order_42 (by decide) (fun h6 => ?_) (fun h6 => ?_)
          · skip
            refine lv_aload_n hx hb dX5_order_49 rfl (lv_at hl 1 rfl) ?_
            refine va_get (v := .int (zOrd σ)) (C := RX5) (T := TX5) (N := 11) (ci := 5) hx hb hts inX5 hown hK hP 0 rfl rfl 9 (by decide) (hts _ q592) (fun _ h => h) rfl dX5_order_50 ?_
            refine lv_bipush (v := 12) hx hb dX5_order_53 (by decide) ?_
            refine c_icmp_ne (tgt := 62) hx hb dX5_order_55 (by decide) (fun h7 => ?_) (fun h7 => ?_)
            · skip
              refine lv_iconst (v := 0) hx hb dX5_order_62 (by decide) ?_
              simp only [sX5_order_j2, if_neg h3, if_neg h4, if_neg h5, if_neg h6, if_neg h7] at K3
              exact K3 ls (lv_sub hl [0, 1, 2, 3] rfl)
            · skip
              refine lv_iconst (v := 2) hx hb dX5_order_58 (by decide) ?_
              refine lv_goto (tgt := 63) hx hb dX5_order_59 (by decide) ?_
              simp only [sX5_order_j2, if_neg h3, if_neg h4, if_neg h5, if_neg h6, if_pos h7] at K3
              exact K3 ls (lv_sub hl [0, 1, 2, 3] rfl)
          · skip
            refine lv_iconst (v := 1) hx hb dX5_order_45 (by decide) ?_
            refine lv_goto (tgt := 63) hx hb dX5_order_46 (by decide) ?_
            simp only [sX5_order_j2, if_neg h3, if_neg h4, if_neg h5, if_pos h6] at K3
            exact K3 ls (lv_sub hl [0, 1, 2, 3] rfl)
  refine va_put (C := RX5) (T := TX5) (N := 11) (ci := 5) (ty := .int) hx hb hts inX5 tyX5 tyX5_ok nmX5 hown hK hP hD hS 0 rfl rfl 0 (by decide) (hts _ q583) (fun _ h => h) rfl rfl rfl rfl (Nat.le_of_ble_eq_true rfl) dX5_order_63 (fun H locs hP hD hS => ?_)
  have hP : va_P D vwCl (MW cI cJ ma (sX5_order_j2 σ a k) σ fr) H := hP
  have hD : va_D A (MW cI cJ ma (sX5_order_j2 σ a k) σ fr) := hD
  refine lv_aload_n hx hb dX5_order_66 rfl (lv_at hl 1 rfl) ?_
  refine va_get (v := .int (sX5_order_j2 σ a k)) (C := RX5) (T := TX5) (N := 11) (ci := 5) hx hb hts inX5 hown hK hP 0 rfl rfl 0 (by decide) (hts _ q583) (fun _ h => h) rfl dX5_order_67 ?_
  refine c_if_le (tgt := 75) hx hb dX5_order_70 (by decide) (fun h8 => ?_) (fun h8 => ?_)
  · skip
    refine lv_aload_n hx hb dX5_order_75 rfl (lv_at hl 1 rfl) ?_
    refine va_get (v := .ref (ma 7)) (C := RX5) (T := TX5) (N := 11) (ci := 5) hx hb hts inX5 hown hK hP 0 rfl rfl 7 (by decide) (hts _ q590) (fun _ h => h) rfl dX5_order_76 ?_
    refine lv_aload_n hx hb dX5_order_79 rfl (lv_at hl 1 rfl) ?_
    refine va_get (v := .int (zOrd σ)) (C := RX5) (T := TX5) (N := 11) (ci := 5) hx hb hts inX5 hown hK hP 0 rfl rfl 9 (by decide) (hts _ q592) (fun _ h => h) rfl dX5_order_80 ?_
    refine lv_iload_n hx hb dX5_order_83 rfl (lv_at hl 2 rfl) ?_
    refine va_iast (f := (zCds σ)) hx hb hK hP hD hS 7 0 rfl rfl (hI (by assumption)) dX5_order_84 (fun H locs hP hD hS => ?_)
    have hP : va_P D vwCl (MW cI cJ ma (sX5_order_j2 σ a k) ((zCnt σ), (zNow σ), (zLst σ), (zGst σ), (zSwg σ), (zTrd σ), (upd (zCds σ) (zOrd σ).toNatClampNeg a), (zOps σ), (zOrd σ), (zRfs σ)) fr) H := hP
    have hD : va_D A (MW cI cJ ma (sX5_order_j2 σ a k) ((zCnt σ), (zNow σ), (zLst σ), (zGst σ), (zSwg σ), (zTrd σ), (upd (zCds σ) (zOrd σ).toNatClampNeg a), (zOps σ), (zOrd σ), (zRfs σ)) fr) := hD
    refine lv_aload_n hx hb dX5_order_85 rfl (lv_at hl 1 rfl) ?_
    refine va_get (v := .ref (ma 8)) (C := RX5) (T := TX5) (N := 11) (ci := 5) hx hb hts inX5 hown hK hP 0 rfl rfl 8 (by decide) (hts _ q591) (fun _ h => h) rfl dX5_order_86 ?_
    refine lv_aload_n hx hb dX5_order_89 rfl (lv_at hl 1 rfl) ?_
    refine va_get (v := .int (zOrd σ)) (C := RX5) (T := TX5) (N := 11) (ci := 5) hx hb hts inX5 hown hK hP 0 rfl rfl 9 (by decide) (hts _ q592) (fun _ h => h) rfl dX5_order_90 ?_
    refine lv_iload_n hx hb dX5_order_93 rfl (lv_at hl 3 rfl) ?_
    refine va_iast (f := (zOps σ)) hx hb hK hP hD hS 8 0 rfl rfl (hI (by assumption)) dX5_order_94 (fun H locs hP hD hS => ?_)
    have hP : va_P D vwCl (MW cI cJ ma (sX5_order_j2 σ a k) ((zCnt σ), (zNow σ), (zLst σ), (zGst σ), (zSwg σ), (zTrd σ), (upd (zCds σ) (zOrd σ).toNatClampNeg a), (upd (zOps σ) (zOrd σ).toNatClampNeg k), (zOrd σ), (zRfs σ)) fr) H := hP
    have hD : va_D A (MW cI cJ ma (sX5_order_j2 σ a k) ((zCnt σ), (zNow σ), (zLst σ), (zGst σ), (zSwg σ), (zTrd σ), (upd (zCds σ) (zOrd σ).toNatClampNeg a), (upd (zOps σ) (zOrd σ).toNatClampNeg k), (zOrd σ), (zRfs σ)) fr) := hD
    refine lv_aload_n hx hb dX5_order_95 rfl (lv_at hl 1 rfl) ?_
    refine lv_dup hx hb dX5_order_96 rfl ?_
    refine va_get (v := .int (zOrd σ)) (C := RX5) (T := TX5) (N := 11) (ci := 5) hx hb hts inX5 hown hK hP 0 rfl rfl 9 (by decide) (hts _ q592) (fun _ h => h) rfl dX5_order_97 ?_
    refine lv_iconst (v := 1) hx hb dX5_order_100 (by decide) ?_
    refine lv_iadd hx hb dX5_order_101 ?_
    refine va_put (C := RX5) (T := TX5) (N := 11) (ci := 5) (ty := .int) hx hb hts inX5 tyX5 tyX5_ok nmX5 hown hK hP hD hS 0 rfl rfl 9 (by decide) (hts _ q592) (fun _ h => h) rfl rfl rfl rfl (Nat.le_of_ble_eq_true rfl) dX5_order_102 (fun H locs hP hD hS => ?_)
    have hP : va_P D vwCl (MW cI cJ ma (sX5_order_j2 σ a k) ((zCnt σ), (zNow σ), (zLst σ), (zGst σ), (zSwg σ), (zTrd σ), (upd (zCds σ) (zOrd σ).toNatClampNeg a), (upd (zOps σ) (zOrd σ).toNatClampNeg k), ((zOrd σ) + (1 : Int32)), (zRfs σ)) fr) H := hP
    have hD : va_D A (MW cI cJ ma (sX5_order_j2 σ a k) ((zCnt σ), (zNow σ), (zLst σ), (zGst σ), (zSwg σ), (zTrd σ), (upd (zCds σ) (zOrd σ).toNatClampNeg a), (upd (zOps σ) (zOrd σ).toNatClampNeg k), ((zOrd σ) + (1 : Int32)), (zRfs σ)) fr) := hD
    refine lv_aload_n hx hb dX5_order_105 rfl (lv_at hl 1 rfl) ?_
    refine va_get (v := .int ((zOrd σ) + (1 : Int32))) (C := RX5) (T := TX5) (N := 11) (ci := 5) hx hb hts inX5 hown hK hP 0 rfl rfl 9 (by decide) (hts _ q592) (fun _ h => h) rfl dX5_order_106 ?_
    exact W.iret hx hb hr (fun t ht hW => ⟨congrArg (fun z => Outcome.returned (some (Value.int z))) (by rw [sX5_order, if_neg h8]), (by unfold hX5_order tX5_order; simp only [if_neg h8]; rw [ht]; exact hP), hS.F ht⟩) hS.2.2 dX5_order_109
  · skip
    refine lv_iconst (v := 0) hx hb dX5_order_73 (by decide) ?_
    exact W.iret hx hb hr (fun t ht hW => ⟨congrArg (fun z => Outcome.returned (some (Value.int z))) (by rw [sX5_order, if_pos h8]), (by unfold hX5_order tX5_order; simp only [if_pos h8]; rw [ht]; exact hP), hS.F ht⟩) hS.2.2 dX5_order_74
def sX5_refusal (σ : St) (a : Int32) (k : Int32) (b : Int32) (v : Int64) : Int32 := if (sX5_asks a) = 0 then (0 : Int32) else if (k / (4 : Int32)) = b then if (zCnt σ k.toNatClampNeg) = 0 then (2 : Int32) else if a = (9 : Int32) then if (sX5_areApart b v (zNow σ k.toNatClampNeg)) = 0 then (0 : Int32) else (3 : Int32) else (0 : Int32) else (2 : Int32)
theorem nX5_refusal : yX5_refusal.cls ≠ "java/lang/invoke/MethodHandle" ∧ yX5_refusal.cls ≠ "java/lang/invoke/VarHandle" ∧ (parseMethodDescriptor yX5_refusal.desc).map (fun d => d.parameters.length) = some 4 := by decide +kernel
set_option maxHeartbeats 4000000 in
set_option maxRecDepth 100000 in
theorem m_X5_refusal (l : Launch) (D : va_G) (A : Nat → Prop) (cI cJ : ClassId) (ma : Nat → Nat) (th : Int32) (σ : St) (fr : va_W) (a : Int32) (k : Int32) (b : Int32) (v : Int64) (hk : ¬ sX5_asks a = 0 → vp_in k 16) : PM l yX5_refusal cX5_refusal 6 (some .int) 2 [.ref (ma 0), .int a, .int k, .int b, .long v] (mPre D A cI cJ (MW cI cJ ma th σ fr)) (.int (sX5_refusal σ a k b v)) := by
  refine Met.ofW (cc := cX5_refusal) (maxL := 6) (ret := (some .int)) (by decide) rfl ?_
  intro p e s m args below meth c s₁ B hml hv
  obtain ⟨rfl, hP, hK, hD⟩ := hv
  have hx := B.exec
  have hb := B.bytes
  have hr := B.returns
  have hts : ∀ w ∈ AW, w.before _ s = true := fun w h => atoms_spec (ws := Cond.code yX5_refusal cX5_refusal 6 (some .int) :: AW) B.pre w (List.mem_cons_of_mem _ h)
  have hown : s.vm.findClass RX5 = some m.cls := findClass_of_methodNamed B.named
  have hlocks := B.notSynchronized
  have hS : va_S A s.heap s.heap [] := va_S.rf
  have hl := lv_entry ([.ref (ma 0), .int a, .int k, .int b, .long v]) (n := 6) (Nat.le_of_ble_eq_true rfl)
  rw [lg_entry_eq]
  generalize (lg_sl ([.ref (ma 0), .int a, .int k, .int b, .long v]) ++ List.replicate (6 - (lg_sl ([.ref (ma 0), .int a, .int k, .int b, .long v])).length) Slot.unset).toArray = ls at hl ⊢
  have hl : lv_has ls 6 [(0, .ref (ma 0)), (1, .int a), (2, .int k), (3, .int b), (4, .long v)] := hl
  refine lv_iload_n hx hb dX5_refusal_0 rfl (lv_at hl 1 rfl) ?_
  refine p_S (rest := []) hx hb hml hown hts (m_X5_asks l a) q716 q717 q26 q718 nX5_asks ⟨Nat.le_of_ble_eq_true rfl, Nat.le_of_ble_eq_true rfl⟩ hl.1 rfl rfl (Nat.le_of_ble_eq_true rfl) dX5_refusal_1 ⟨Nat.zero_le _, Nat.zero_le _⟩ blind_c (fun _ _ _ => trivial) ?_
  refine c_if_ne (tgt := 9) hx hb dX5_refusal_4 (by decide) (fun h1 => ?_) (fun h1 => ?_)
  · skip
    refine lv_iload_n hx hb dX5_refusal_9 rfl (lv_at hl 2 rfl) ?_
    refine lv_iconst (v := 4) hx hb dX5_refusal_10 (by decide) ?_
    refine lv_idiv hx hb dX5_refusal_11 (by decide) ?_
    refine lv_iload_n hx hb dX5_refusal_12 rfl (lv_at hl 3 rfl) ?_
    refine c_icmp_ne (tgt := 25) hx hb dX5_refusal_13 (by decide) (fun h2 => ?_) (fun h2 => ?_)
    · skip
      refine lv_iconst (v := 2) hx hb dX5_refusal_25 (by decide) ?_
      exact W.iret hx hb hr (fun t ht hW => pq_i (by rw [sX5_refusal, if_neg h1, if_neg h2]) ht) nil_free dX5_refusal_26
    · skip
      refine lv_aload_n hx hb dX5_refusal_16 rfl (lv_at hl 0 rfl) ?_
      refine va_get (v := .ref (ma 1)) (C := RX5) (T := TX5) (N := 11) (ci := 5) hx hb hts inX5 hown hK hP 0 rfl rfl 1 (by decide) (hts _ q584) (fun _ h => h) rfl dX5_refusal_17 ?_
      refine lv_iload_n hx hb dX5_refusal_20 rfl (lv_at hl 2 rfl) ?_
      refine va_iald (f := (zCnt σ)) hx hb hK hP 1 0 rfl rfl (hk (by assumption)) dX5_refusal_21 ?_
      refine c_if_ne (tgt := 27) hx hb dX5_refusal_22 (by decide) (fun h3 => ?_) (fun h3 => ?_)
      · skip
        refine lv_iload_n hx hb dX5_refusal_27 rfl (lv_at hl 1 rfl) ?_
        refine lv_bipush (v := 9) hx hb dX5_refusal_28 (by decide) ?_
        refine c_icmp_ne (tgt := 52) hx hb dX5_refusal_30 (by decide) (fun h4 => ?_) (fun h4 => ?_)
        · skip
          refine lv_iconst (v := 0) hx hb dX5_refusal_52 (by decide) ?_
          exact W.iret hx hb hr (fun t ht hW => pq_i (by rw [sX5_refusal, if_neg h1, if_pos h2, if_neg h3, if_neg h4]) ht) nil_free dX5_refusal_53
        · skip
          refine lv_iload_n hx hb dX5_refusal_33 rfl (lv_at hl 3 rfl) ?_
          refine lv_lload hx hb dX5_refusal_34 (lv_at hl 4 rfl) ?_
          refine lv_aload_n hx hb dX5_refusal_36 rfl (lv_at hl 0 rfl) ?_
          refine va_get (v := .ref (ma 2)) (C := RX5) (T := TX5) (N := 11) (ci := 5) hx hb hts inX5 hown hK hP 0 rfl rfl 2 (by decide) (hts _ q585) (fun _ h => h) rfl dX5_refusal_37 ?_
          refine lv_iload_n hx hb dX5_refusal_40 rfl (lv_at hl 2 rfl) ?_
          refine va_lald (f := (zNow σ)) hx hb hK hP 2 1 rfl rfl (hk (by assumption)) dX5_refusal_41 ?_
          refine p_S (rest := []) hx hb hml hown hts (m_X5_areApart l b v (zNow σ k.toNatClampNeg)) q735 q736 q26 q737 nX5_areApart ⟨Nat.le_of_ble_eq_true rfl, Nat.le_of_ble_eq_true rfl⟩ hl.1 rfl rfl (Nat.le_of_ble_eq_true rfl) dX5_refusal_42 ⟨Nat.zero_le _, Nat.zero_le _⟩ blind_c (fun _ _ _ => trivial) ?_
          refine c_if_eq (tgt := 52) hx hb dX5_refusal_45 (by decide) (fun h5 => ?_) (fun h5 => ?_)
          · skip
            refine lv_iconst (v := 0) hx hb dX5_refusal_52 (by decide) ?_
            exact W.iret hx hb hr (fun t ht hW => pq_i (by rw [sX5_refusal, if_neg h1, if_pos h2, if_neg h3, if_pos h4, if_pos h5]) ht) nil_free dX5_refusal_53
          · skip
            refine lv_iconst (v := 3) hx hb dX5_refusal_48 (by decide) ?_
            refine lv_goto (tgt := 53) hx hb dX5_refusal_49 (by decide) ?_
            exact W.iret hx hb hr (fun t ht hW => pq_i (by rw [sX5_refusal, if_neg h1, if_pos h2, if_neg h3, if_pos h4, if_neg h5]) ht) nil_free dX5_refusal_53
      · skip
        refine lv_iconst (v := 2) hx hb dX5_refusal_25 (by decide) ?_
        exact W.iret hx hb hr (fun t ht hW => pq_i (by rw [sX5_refusal, if_neg h1, if_pos h2, if_pos h3]) ht) nil_free dX5_refusal_26
  · skip
    refine lv_iconst (v := 0) hx hb dX5_refusal_7 (by decide) ?_
    exact W.iret hx hb hr (fun t ht hW => pq_i (by rw [sX5_refusal, if_pos h1]) ht) nil_free dX5_refusal_8
def sX5_look_j1 (σ : St) (g : Int32) (k : Int32) : Int32 := (if (sX5_isBalance g) = 0 then (1 : Int32) else (if k < 0 then (1 : Int32) else (if (5 : Int32) < k then (1 : Int32) else (0 : Int32))))
def sX5_look (σ : St) (g : Int32) (k : Int32) : Int64 := if 0 < (sX5_look_j1 σ g k) then (0 : Int64) else if k = (0 : Int32) then (zCnt σ g.toNatClampNeg).toInt64 else if k = (1 : Int32) then (zNow σ g.toNatClampNeg) else if k = (2 : Int32) then (zLst σ g.toNatClampNeg) else if k = (3 : Int32) then (zGst σ g.toNatClampNeg) else if k = (4 : Int32) then (zSwg σ g.toNatClampNeg) else (zTrd σ g.toNatClampNeg)
def hX5_look (th : Int32) (σ : St) (g : Int32) (k : Int32) : Int32 := if 0 < (sX5_look_j1 σ g k) then (sX5_look_j1 σ g k) else if k = (0 : Int32) then (sX5_look_j1 σ g k) else if k = (1 : Int32) then (sX5_look_j1 σ g k) else if k = (2 : Int32) then (sX5_look_j1 σ g k) else if k = (3 : Int32) then (sX5_look_j1 σ g k) else if k = (4 : Int32) then (sX5_look_j1 σ g k) else (sX5_look_j1 σ g k)
def tX5_look (σ : St) (g : Int32) (k : Int32) : St := if 0 < (sX5_look_j1 σ g k) then σ else if k = (0 : Int32) then σ else if k = (1 : Int32) then σ else if k = (2 : Int32) then σ else if k = (3 : Int32) then σ else if k = (4 : Int32) then σ else σ
theorem nX5_look : yX5_look.cls ≠ "java/lang/invoke/MethodHandle" ∧ yX5_look.cls ≠ "java/lang/invoke/VarHandle" ∧ (parseMethodDescriptor yX5_look.desc).map (fun d => d.parameters.length) = some 2 := by decide +kernel
set_option maxHeartbeats 4000000 in
set_option maxRecDepth 100000 in
theorem m_X5_look (l : Launch) (D : va_G) (A : Nat → Prop) (cI cJ : ClassId) (ma : Nat → Nat) (th : Int32) (σ : St) (fr : va_W) (g : Int32) (k : Int32) (hg : ¬ 0 < sX5_look_j1 σ g k → vp_in g 16) : IM l yX5_look cX5_look 3 (some .long) 1 [.ref (ma 0), .int g, .int k] (mPre D A cI cJ (MW cI cJ ma th σ fr)) D A (some (.long (sX5_look σ g k))) (MW cI cJ ma (hX5_look th σ g k) (tX5_look σ g k) fr) := by
  refine Met.ofW (cc := cX5_look) (maxL := 3) (ret := (some .long)) (by decide) rfl ?_
  intro p e s m args below meth c s₁ B hml hv
  obtain ⟨rfl, hP, hK, hD⟩ := hv
  have hx := B.exec
  have hb := B.bytes
  have hr := B.returns
  have hts : ∀ w ∈ AW, w.before _ s = true := fun w h => atoms_spec (ws := Cond.code yX5_look cX5_look 3 (some .long) :: AW) B.pre w (List.mem_cons_of_mem _ h)
  have hown : s.vm.findClass RX5 = some m.cls := findClass_of_methodNamed B.named
  have hlocks := B.notSynchronized
  have hS : va_S A s.heap s.heap [] := va_S.rf
  have hl := lv_entry ([.ref (ma 0), .int g, .int k]) (n := 3) (Nat.le_of_ble_eq_true rfl)
  rw [lg_entry_eq]
  generalize (lg_sl ([.ref (ma 0), .int g, .int k]) ++ List.replicate (3 - (lg_sl ([.ref (ma 0), .int g, .int k])).length) Slot.unset).toArray = ls at hl ⊢
  have hl : lv_has ls 3 [(0, .ref (ma 0)), (1, .int g), (2, .int k)] := hl
  refine lv_aload_n hx hb dX5_look_0 rfl (lv_at hl 0 rfl) ?_
  refine lv_iload_n hx hb dX5_look_1 rfl (lv_at hl 1 rfl) ?_
  refine p_S (rest := [.ref (ma 0)]) hx hb hml hown hts (m_X5_isBalance l g) q626 q627 q26 q628 nX5_isBalance ⟨Nat.le_of_ble_eq_true rfl, Nat.le_of_ble_eq_true rfl⟩ hl.1 rfl rfl (Nat.le_of_ble_eq_true rfl) dX5_look_2 ⟨Nat.zero_le _, Nat.zero_le _⟩ blind_c (fun _ _ _ => trivial) ?_
  refine p_join (J := 22) (nL := 3) (st := [.int (sX5_look_j1 σ g k), .ref (ma 0)]) (lv := [(0, .ref (ma 0)), (1, .int g), (2, .int k)]) (fun ls hl => ?_) (fun K1 => ?_)
  rotate_left
  · refine c_if_eq (tgt := 17) hx hb dX5_look_5 (by decide) (fun h1 => ?_) (fun h1 => ?_)
    · skip
      refine lv_iconst (v := 1) hx hb dX5_look_17 (by decide) ?_
      refine lv_goto (tgt := 22) hx hb dX5_look_18 (by decide) ?_
      simp only [sX5_look_j1, if_pos h1] at K1
      exact K1 ls (lv_sub hl [0, 1, 2] rfl)
    · skip
      refine lv_iload_n hx hb dX5_look_8 rfl (lv_at hl 2 rfl) ?_
      refine c_if_lt (tgt := 17) hx hb dX5_look_9 (by decide) (fun h2 => ?_) (fun h2 => ?_)
      · skip
        refine lv_iconst (v := 1) hx hb dX5_look_17 (by decide) ?_
        refine lv_goto (tgt := 22) hx hb dX5_look_18 (by decide) ?_
        simp only [sX5_look_j1, if_neg h1, if_pos h2] at K1
        exact K1 ls (lv_sub hl [0, 1, 2] rfl)
      · skip
        refine lv_iload_n hx hb dX5_look_12 rfl (lv_at hl 2 rfl) ?_
        refine lv_iconst (v := 5) hx hb dX5_look_13 (by decide) ?_
        refine c_icmp_le (tgt := 21) hx hb dX5_look_14 (by decide) (fun h3 => ?_) (fun h3 => ?_)
        · skip
          refine lv_iconst (v := 0) hx hb dX5_look_21 (by decide) ?_
          simp only [sX5_look_j1, if_neg h1, if_neg h2, if_neg h3] at K1
          exact K1 ls (lv_sub hl [0, 1, 2] rfl)
        · skip
          refine lv_iconst (v := 1) hx hb dX5_look_17 (by decide) ?_
          refine lv_goto (tgt := 22) hx hb dX5_look_18 (by decide) ?_
          simp only [sX5_look_j1, if_neg h1, if_neg h2, if_pos h3] at K1
          exact K1 ls (lv_sub hl [0, 1, 2] rfl)
  refine va_put (C := RX5) (T := TX5) (N := 11) (ci := 5) (ty := .int) hx hb hts inX5 tyX5 tyX5_ok nmX5 hown hK hP hD hS 0 rfl rfl 0 (by decide) (hts _ q583) (fun _ h => h) rfl rfl rfl rfl (Nat.le_of_ble_eq_true rfl) dX5_look_22 (fun H locs hP hD hS => ?_)
  have hP : va_P D vwCl (MW cI cJ ma (sX5_look_j1 σ g k) σ fr) H := hP
  have hD : va_D A (MW cI cJ ma (sX5_look_j1 σ g k) σ fr) := hD
  refine lv_aload_n hx hb dX5_look_25 rfl (lv_at hl 0 rfl) ?_
  refine va_get (v := .int (sX5_look_j1 σ g k)) (C := RX5) (T := TX5) (N := 11) (ci := 5) hx hb hts inX5 hown hK hP 0 rfl rfl 0 (by decide) (hts _ q583) (fun _ h => h) rfl dX5_look_26 ?_
  refine c_if_le (tgt := 34) hx hb dX5_look_29 (by decide) (fun h4 => ?_) (fun h4 => ?_)
  · skip
    refine lv_iload_n hx hb dX5_look_34 rfl (lv_at hl 2 rfl) ?_
    by_cases h5 : k = (0 : Int32)
    · refine lv_tableIn (off := 33) (tgt := 68) hx hb dX5_look_35 (by rw [h5]; decide) (by rw [h5]; decide) (by rw [h5]; rfl) (by decide) ?_
      refine lv_aload_n hx hb dX5_look_68 rfl (lv_at hl 0 rfl) ?_
      refine va_get (v := .ref (ma 1)) (C := RX5) (T := TX5) (N := 11) (ci := 5) hx hb hts inX5 hown hK hP 0 rfl rfl 1 (by decide) (hts _ q584) (fun _ h => h) rfl dX5_look_69 ?_
      refine lv_iload_n hx hb dX5_look_72 rfl (lv_at hl 1 rfl) ?_
      refine va_iald (f := (zCnt σ)) hx hb hK hP 1 0 rfl rfl (hg (by assumption)) dX5_look_73 ?_
      refine lv_i2l hx hb dX5_look_74 rfl ?_
      exact W.lret hx hb hr (fun t ht hW => ⟨congrArg (fun z => Outcome.returned (some (Value.long z))) (by rw [sX5_look, if_neg h4, if_pos h5]), (by unfold hX5_look tX5_look; simp only [if_neg h4, if_pos h5]; rw [ht]; exact hP), hS.F ht⟩) hS.2.2 dX5_look_75
    by_cases h6 : k = (1 : Int32)
    · refine lv_tableIn (off := 41) (tgt := 76) hx hb dX5_look_35 (by rw [h6]; decide) (by rw [h6]; decide) (by rw [h6]; rfl) (by decide) ?_
      refine lv_aload_n hx hb dX5_look_76 rfl (lv_at hl 0 rfl) ?_
      refine va_get (v := .ref (ma 2)) (C := RX5) (T := TX5) (N := 11) (ci := 5) hx hb hts inX5 hown hK hP 0 rfl rfl 2 (by decide) (hts _ q585) (fun _ h => h) rfl dX5_look_77 ?_
      refine lv_iload_n hx hb dX5_look_80 rfl (lv_at hl 1 rfl) ?_
      refine va_lald (f := (zNow σ)) hx hb hK hP 2 1 rfl rfl (hg (by assumption)) dX5_look_81 ?_
      exact W.lret hx hb hr (fun t ht hW => ⟨congrArg (fun z => Outcome.returned (some (Value.long z))) (by rw [sX5_look, if_neg h4, if_neg h5, if_pos h6]), (by unfold hX5_look tX5_look; simp only [if_neg h4, if_neg h5, if_pos h6]; rw [ht]; exact hP), hS.F ht⟩) hS.2.2 dX5_look_82
    by_cases h7 : k = (2 : Int32)
    · refine lv_tableIn (off := 48) (tgt := 83) hx hb dX5_look_35 (by rw [h7]; decide) (by rw [h7]; decide) (by rw [h7]; rfl) (by decide) ?_
      refine lv_aload_n hx hb dX5_look_83 rfl (lv_at hl 0 rfl) ?_
      refine va_get (v := .ref (ma 3)) (C := RX5) (T := TX5) (N := 11) (ci := 5) hx hb hts inX5 hown hK hP 0 rfl rfl 3 (by decide) (hts _ q586) (fun _ h => h) rfl dX5_look_84 ?_
      refine lv_iload_n hx hb dX5_look_87 rfl (lv_at hl 1 rfl) ?_
      refine va_lald (f := (zLst σ)) hx hb hK hP 3 1 rfl rfl (hg (by assumption)) dX5_look_88 ?_
      exact W.lret hx hb hr (fun t ht hW => ⟨congrArg (fun z => Outcome.returned (some (Value.long z))) (by rw [sX5_look, if_neg h4, if_neg h5, if_neg h6, if_pos h7]), (by unfold hX5_look tX5_look; simp only [if_neg h4, if_neg h5, if_neg h6, if_pos h7]; rw [ht]; exact hP), hS.F ht⟩) hS.2.2 dX5_look_89
    by_cases h8 : k = (3 : Int32)
    · refine lv_tableIn (off := 55) (tgt := 90) hx hb dX5_look_35 (by rw [h8]; decide) (by rw [h8]; decide) (by rw [h8]; rfl) (by decide) ?_
      refine lv_aload_n hx hb dX5_look_90 rfl (lv_at hl 0 rfl) ?_
      refine va_get (v := .ref (ma 4)) (C := RX5) (T := TX5) (N := 11) (ci := 5) hx hb hts inX5 hown hK hP 0 rfl rfl 4 (by decide) (hts _ q587) (fun _ h => h) rfl dX5_look_91 ?_
      refine lv_iload_n hx hb dX5_look_94 rfl (lv_at hl 1 rfl) ?_
      refine va_lald (f := (zGst σ)) hx hb hK hP 4 1 rfl rfl (hg (by assumption)) dX5_look_95 ?_
      exact W.lret hx hb hr (fun t ht hW => ⟨congrArg (fun z => Outcome.returned (some (Value.long z))) (by rw [sX5_look, if_neg h4, if_neg h5, if_neg h6, if_neg h7, if_pos h8]), (by unfold hX5_look tX5_look; simp only [if_neg h4, if_neg h5, if_neg h6, if_neg h7, if_pos h8]; rw [ht]; exact hP), hS.F ht⟩) hS.2.2 dX5_look_96
    by_cases h9 : k = (4 : Int32)
    · refine lv_tableIn (off := 62) (tgt := 97) hx hb dX5_look_35 (by rw [h9]; decide) (by rw [h9]; decide) (by rw [h9]; rfl) (by decide) ?_
      refine lv_aload_n hx hb dX5_look_97 rfl (lv_at hl 0 rfl) ?_
      refine va_get (v := .ref (ma 5)) (C := RX5) (T := TX5) (N := 11) (ci := 5) hx hb hts inX5 hown hK hP 0 rfl rfl 5 (by decide) (hts _ q588) (fun _ h => h) rfl dX5_look_98 ?_
      refine lv_iload_n hx hb dX5_look_101 rfl (lv_at hl 1 rfl) ?_
      refine va_lald (f := (zSwg σ)) hx hb hK hP 5 1 rfl rfl (hg (by assumption)) dX5_look_102 ?_
      exact W.lret hx hb hr (fun t ht hW => ⟨congrArg (fun z => Outcome.returned (some (Value.long z))) (by rw [sX5_look, if_neg h4, if_neg h5, if_neg h6, if_neg h7, if_neg h8, if_pos h9]), (by unfold hX5_look tX5_look; simp only [if_neg h4, if_neg h5, if_neg h6, if_neg h7, if_neg h8, if_pos h9]; rw [ht]; exact hP), hS.F ht⟩) hS.2.2 dX5_look_103
    have h5N := lv_neT (a := 0) h5 (by decide)
    have h6N := lv_neT (a := 1) h6 (by decide)
    have h7N := lv_neT (a := 2) h7 (by decide)
    have h8N := lv_neT (a := 3) h8 (by decide)
    have h9N := lv_neT (a := 4) h9 (by decide)
    refine lv_tableOut (tgt := 104) hx hb dX5_look_35 (by omega) (by decide) ?_
    refine lv_aload_n hx hb dX5_look_104 rfl (lv_at hl 0 rfl) ?_
    refine va_get (v := .ref (ma 6)) (C := RX5) (T := TX5) (N := 11) (ci := 5) hx hb hts inX5 hown hK hP 0 rfl rfl 6 (by decide) (hts _ q589) (fun _ h => h) rfl dX5_look_105 ?_
    refine lv_iload_n hx hb dX5_look_108 rfl (lv_at hl 1 rfl) ?_
    refine va_lald (f := (zTrd σ)) hx hb hK hP 6 1 rfl rfl (hg (by assumption)) dX5_look_109 ?_
    exact W.lret hx hb hr (fun t ht hW => ⟨congrArg (fun z => Outcome.returned (some (Value.long z))) (by rw [sX5_look, if_neg h4, if_neg h5, if_neg h6, if_neg h7, if_neg h8, if_neg h9]), (by unfold hX5_look tX5_look; simp only [if_neg h4, if_neg h5, if_neg h6, if_neg h7, if_neg h8, if_neg h9]; rw [ht]; exact hP), hS.F ht⟩) hS.2.2 dX5_look_110
  · skip
    refine lv_lconst (v := 0) hx hb dX5_look_32 (by decide) ?_
    exact W.lret hx hb hr (fun t ht hW => ⟨congrArg (fun z => Outcome.returned (some (Value.long z))) (by rw [sX5_look, if_pos h4]), (by unfold hX5_look tX5_look; simp only [if_pos h4]; rw [ht]; exact hP), hS.F ht⟩) hS.2.2 dX5_look_33
