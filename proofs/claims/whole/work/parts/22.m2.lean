def sX5_real (a : Int32) (v : Int64) : UInt64 := if a = (2 : Int32) then (FP.f2d v.toInt32.toUInt32) else v.toUInt64
theorem nX5_real : yX5_real.cls ≠ "java/lang/invoke/MethodHandle" ∧ yX5_real.cls ≠ "java/lang/invoke/VarHandle" ∧ (parseMethodDescriptor yX5_real.desc).map (fun d => d.parameters.length) = some 2 := by decide +kernel
set_option maxHeartbeats 4000000 in
set_option maxRecDepth 100000 in
theorem m_X5_real (l : Launch) (a : Int32) (v : Int64) (hF : okF a v) : PM l yX5_real cX5_real 3 (some .double) 1 [.int a, .long v] (fun _ => True) (.double (sX5_real a v)) := by
  refine Met.ofW (cc := cX5_real) (maxL := 3) (ret := (some .double)) (by decide) rfl ?_
  intro p e s m args below meth c s₁ B hml hv
  obtain ⟨rfl, -⟩ := hv
  have hx := B.exec
  have hb := B.bytes
  have hr := B.returns
  have hts : ∀ w ∈ AW, w.before _ s = true := fun w h => atoms_spec (ws := Cond.code yX5_real cX5_real 3 (some .double) :: AW) B.pre w (List.mem_cons_of_mem _ h)
  have hown : s.vm.findClass RX5 = some m.cls := findClass_of_methodNamed B.named
  have hlocks := B.notSynchronized
  have hl := lv_entry ([.int a, .long v]) (n := 3) (Nat.le_of_ble_eq_true rfl)
  rw [lg_entry_eq]
  generalize (lg_sl ([.int a, .long v]) ++ List.replicate (3 - (lg_sl ([.int a, .long v])).length) Slot.unset).toArray = ls at hl ⊢
  have hl : lv_has ls 3 [(0, .int a), (1, .long v)] := hl
  refine lv_iload_n hx hb dX5_real_0 rfl (lv_at hl 0 rfl) ?_
  refine lv_iconst (v := 2) hx hb dX5_real_1 (by decide) ?_
  refine c_icmp_ne (tgt := 14) hx hb dX5_real_2 (by decide) (fun h1 => ?_) (fun h1 => ?_)
  · skip
    refine lv_lload_n hx hb dX5_real_14 rfl (lv_at hl 1 rfl) ?_
    refine vn_l2d hx hb (hml.trans hl.1.symm) hown (hts _ q660) (hts _ q662) (hts _ q661) (hts _ q32) (sn64 (hF.2 h1)) (Nat.le_of_ble_eq_true rfl) (Nat.le_of_ble_eq_true rfl) dX5_real_15 ?_
    exact W.dret hx hb hr (fun t ht hW => pq_d (by rw [sX5_real, if_neg h1]) ht) nil_free dX5_real_18
  · skip
    refine lv_lload_n hx hb dX5_real_5 rfl (lv_at hl 1 rfl) ?_
    refine lv_l2i hx hb dX5_real_6 rfl ?_
    refine vn_i2f hx hb (hml.trans hl.1.symm) hown (hts _ q657) (hts _ q659) (hts _ q658) (hts _ q31) (sn32 (hF.1 h1)) (Nat.le_of_ble_eq_true rfl) (Nat.le_of_ble_eq_true rfl) dX5_real_7 ?_
    refine lv_f2d hx hb dX5_real_10 (nn_f2d (hF.1 h1)) ?_
    refine lv_goto (tgt := 18) hx hb dX5_real_11 (by decide) ?_
    exact W.dret hx hb hr (fun t ht hW => pq_d (by rw [sX5_real, if_pos h1]) ht) nil_free dX5_real_18
def sX5_bits (a : Int32) (x : UInt64) : Int64 := if a = (2 : Int32) then (sJxf58ca_floatToIntBits_5c35a (FP.d2f x)).toInt64 else (sJxe99ae_doubleToLongBits_ccdee x)
theorem nX5_bits : yX5_bits.cls ≠ "java/lang/invoke/MethodHandle" ∧ yX5_bits.cls ≠ "java/lang/invoke/VarHandle" ∧ (parseMethodDescriptor yX5_bits.desc).map (fun d => d.parameters.length) = some 2 := by decide +kernel
set_option maxHeartbeats 4000000 in
set_option maxRecDepth 100000 in
theorem m_X5_bits (l : Launch) (a : Int32) (x : UInt64) (hF : vf_n64 x) : PM l yX5_bits cX5_bits 3 (some .long) 2 [.int a, .double x] (fun _ => True) (.long (sX5_bits a x)) := by
  refine Met.ofW (cc := cX5_bits) (maxL := 3) (ret := (some .long)) (by decide) rfl ?_
  intro p e s m args below meth c s₁ B hml hv
  obtain ⟨rfl, -⟩ := hv
  have hx := B.exec
  have hb := B.bytes
  have hr := B.returns
  have hts : ∀ w ∈ AW, w.before _ s = true := fun w h => atoms_spec (ws := Cond.code yX5_bits cX5_bits 3 (some .long) :: AW) B.pre w (List.mem_cons_of_mem _ h)
  have hown : s.vm.findClass RX5 = some m.cls := findClass_of_methodNamed B.named
  have hlocks := B.notSynchronized
  have hl := lv_entry ([.int a, .double x]) (n := 3) (Nat.le_of_ble_eq_true rfl)
  rw [lg_entry_eq]
  generalize (lg_sl ([.int a, .double x]) ++ List.replicate (3 - (lg_sl ([.int a, .double x])).length) Slot.unset).toArray = ls at hl ⊢
  have hl : lv_has ls 3 [(0, .int a), (1, .double x)] := hl
  refine lv_iload_n hx hb dX5_bits_0 rfl (lv_at hl 0 rfl) ?_
  refine lv_iconst (v := 2) hx hb dX5_bits_1 (by decide) ?_
  refine c_icmp_ne (tgt := 14) hx hb dX5_bits_2 (by decide) (fun h1 => ?_) (fun h1 => ?_)
  · skip
    refine lv_dload_n hx hb dX5_bits_14 rfl (lv_at hl 1 rfl) ?_
    refine p_S (rest := []) hx hb hml hown hts (m_Jxe99ae_doubleToLongBits_ccdee l x) q676 q677 q32 q678 nJxe99ae_doubleToLongBits_ccdee ⟨Nat.le_of_ble_eq_true rfl, Nat.le_of_ble_eq_true rfl⟩ hl.1 rfl rfl (Nat.le_of_ble_eq_true rfl) dX5_bits_15 ⟨Nat.zero_le _, Nat.zero_le _⟩ blind_c (fun _ _ _ => trivial) ?_
    exact W.lret hx hb hr (fun t ht hW => pq_l (by rw [sX5_bits, if_neg h1]) ht) nil_free dX5_bits_18
  · skip
    refine lv_dload_n hx hb dX5_bits_5 rfl (lv_at hl 1 rfl) ?_
    refine lv_d2f hx hb dX5_bits_6 (nn_d2f hF) ?_
    refine p_S (rest := []) hx hb hml hown hts (m_Jxf58ca_floatToIntBits_5c35a l (FP.d2f x)) q666 q667 q31 q668 nJxf58ca_floatToIntBits_5c35a ⟨Nat.le_of_ble_eq_true rfl, Nat.le_of_ble_eq_true rfl⟩ hl.1 rfl rfl (Nat.le_of_ble_eq_true rfl) dX5_bits_7 ⟨Nat.zero_le _, Nat.zero_le _⟩ blind_c (fun _ _ _ => trivial) ?_
    refine lv_i2l hx hb dX5_bits_10 rfl ?_
    refine lv_goto (tgt := 18) hx hb dX5_bits_11 (by decide) ?_
    exact W.lret hx hb hr (fun t ht hW => pq_l (by rw [sX5_bits, if_pos h1]) ht) nil_free dX5_bits_18
def sX5_whole_j1 (x : UInt64) (k : Int32) : Int64 := (if 0 < (Op.cmpValue (FP.dcmp (FP.l2d (FP.d2l x)) x) CmpOp.l) then ((FP.d2l x) - (1 : Int64)) else (FP.d2l x))
def sX5_whole_e2 (x : UInt64) (k : Int32) : UInt64 := (FP.dsub x (FP.l2d (sX5_whole_j1 x k)))
def sX5_whole_j3 (x : UInt64) (k : Int32) : Int32 := (if k = (1 : Int32) then (if 0 < (Op.cmpValue (FP.dcmp (sX5_whole_e2 x k) FP.dconst0) CmpOp.l) then (1 : Int32) else (0 : Int32)) else (if k = 0 then (if 0 < (Op.cmpValue (FP.dcmp (sX5_whole_e2 x k) (4602678819172646912 : UInt64)) CmpOp.l) then (1 : Int32) else (if (Op.cmpValue (FP.dcmp (sX5_whole_e2 x k) (4602678819172646912 : UInt64)) CmpOp.l) = 0 then (if ((sX5_whole_j1 x k) &&& (1 : Int64)) = (1 : Int64) then (1 : Int32) else (0 : Int32)) else (0 : Int32))) else (0 : Int32)))
def sX5_whole_j4 (x : UInt64) (k : Int32) : Int64 := (if (sX5_whole_j3 x k) = 0 then (sX5_whole_j1 x k) else ((sX5_whole_j1 x k) + (1 : Int64)))
def sX5_whole_j5 (x : UInt64) (k : Int32) : Int32 := (if (Op.cmpValue (FP.dcmp x FP.dconst0) CmpOp.g) < 0 then (1 : Int32) else (if (Op.cmpValue (FP.dcmp x FP.dconst0) CmpOp.l) = 0 then (if (sJxe99ae_doubleToLongBits_ccdee x) < (0 : Int64) then (1 : Int32) else (0 : Int32)) else (0 : Int32)))
def sX5_whole (x : UInt64) (k : Int32) : UInt64 := if (Op.cmpValue (FP.dcmp x (4841369599423283200 : UInt64)) CmpOp.l) < 0 then if 0 < (Op.cmpValue (FP.dcmp x (14064741636278059008 : UInt64)) CmpOp.g) then if (sX5_whole_j4 x k) = (0 : Int64) then if (sX5_whole_j5 x k) = 0 then (FP.l2d (sX5_whole_j4 x k)) else (9223372036854775808 : UInt64) else (FP.l2d (sX5_whole_j4 x k)) else x else x
theorem nX5_whole : yX5_whole.cls ≠ "java/lang/invoke/MethodHandle" ∧ yX5_whole.cls ≠ "java/lang/invoke/VarHandle" ∧ (parseMethodDescriptor yX5_whole.desc).map (fun d => d.parameters.length) = some 2 := by decide +kernel
set_option maxHeartbeats 4000000 in
set_option maxRecDepth 100000 in
theorem m_X5_whole (l : Launch) (x : UInt64) (k : Int32) (hF : vf_n64 x) : PM l yX5_whole cX5_whole 13 (some .double) 2 [.double x, .int k] (fun _ => True) (.double (sX5_whole x k)) := by
  refine Met.ofW (cc := cX5_whole) (maxL := 13) (ret := (some .double)) (by decide) rfl ?_
  intro p e s m args below meth c s₁ B hml hv
  obtain ⟨rfl, -⟩ := hv
  have hx := B.exec
  have hb := B.bytes
  have hr := B.returns
  have hts : ∀ w ∈ AW, w.before _ s = true := fun w h => atoms_spec (ws := Cond.code yX5_whole cX5_whole 13 (some .double) :: AW) B.pre w (List.mem_cons_of_mem _ h)
  have hown : s.vm.findClass RX5 = some m.cls := findClass_of_methodNamed B.named
  have hlocks := B.notSynchronized
  have hl := lv_entry ([.double x, .int k]) (n := 13) (Nat.le_of_ble_eq_true rfl)
  rw [lg_entry_eq]
  generalize (lg_sl ([.double x, .int k]) ++ List.replicate (13 - (lg_sl ([.double x, .int k])).length) Slot.unset).toArray = ls at hl ⊢
  have hl : lv_has ls 13 [(0, .double x), (2, .int k)] := hl
  refine lv_dload_n hx hb dX5_whole_0 rfl (lv_at hl 0 rfl) ?_
  refine lv_ldc2d hx hb hown (hts _ q751) dX5_whole_1 ?_
  refine lv_dcmp hx hb dX5_whole_4 ?_
  refine c_if_ge (tgt := 16) hx hb dX5_whole_5 (by decide) (fun h1 => ?_) (fun h1 => ?_)
  · skip
    refine lv_dload_n hx hb dX5_whole_16 rfl (lv_at hl 0 rfl) ?_
    exact W.dret hx hb hr (fun t ht hW => pq_d (by rw [sX5_whole, if_neg h1]) ht) nil_free dX5_whole_17
  · skip
    refine lv_dload_n hx hb dX5_whole_8 rfl (lv_at hl 0 rfl) ?_
    refine lv_ldc2d hx hb hown (hts _ q752) dX5_whole_9 ?_
    refine lv_dcmp hx hb dX5_whole_12 ?_
    refine c_if_gt (tgt := 18) hx hb dX5_whole_13 (by decide) (fun h2 => ?_) (fun h2 => ?_)
    · skip
      refine lv_dload_n hx hb dX5_whole_18 rfl (lv_at hl 0 rfl) ?_
      refine lv_d2l hx hb dX5_whole_19 ?_
      refine lv_lstore_n (lv' := [(3, .long (FP.d2l x)), (0, .double x), (2, .int k)]) hx hb dX5_whole_20 rfl hl (by decide) rfl (fun ls hl => ?_)
      refine lv_lload_n hx hb dX5_whole_21 rfl (lv_at hl 0 rfl) ?_
      refine lv_l2d hx hb dX5_whole_22 ?_
      refine lv_dload_n hx hb dX5_whole_23 rfl (lv_at hl 1 rfl) ?_
      refine lv_dcmp hx hb dX5_whole_24 ?_
      refine p_join (J := 35) (nL := 13) (st := [.long (sX5_whole_j1 x k)]) (lv := [(3, .long (FP.d2l x)), (0, .double x), (2, .int k)]) (fun ls hl => ?_) (fun K3 => ?_)
      rotate_left
      · refine c_if_le (tgt := 34) hx hb dX5_whole_25 (by decide) (fun h3 => ?_) (fun h3 => ?_)
        · skip
          refine lv_lload_n hx hb dX5_whole_34 rfl (lv_at hl 0 rfl) ?_
          simp only [sX5_whole_j1, if_neg h3] at K3
          exact K3 ls (lv_sub hl [0, 1, 2] rfl)
        · skip
          refine lv_lload_n hx hb dX5_whole_28 rfl (lv_at hl 0 rfl) ?_
          refine lv_lconst (v := 1) hx hb dX5_whole_29 (by decide) ?_
          refine lv_lsub hx hb dX5_whole_30 ?_
          refine lv_goto (tgt := 35) hx hb dX5_whole_31 (by decide) ?_
          simp only [sX5_whole_j1, if_pos h3] at K3
          exact K3 ls (lv_sub hl [0, 1, 2] rfl)
      refine lv_lstore (lv' := [(5, .long (sX5_whole_j1 x k)), (3, .long (FP.d2l x)), (0, .double x), (2, .int k)]) hx hb dX5_whole_35 hl (by decide) rfl (fun ls hl => ?_)
      refine lv_dload_n hx hb dX5_whole_37 rfl (lv_at hl 2 rfl) ?_
      refine lv_lload hx hb dX5_whole_38 (lv_at hl 0 rfl) ?_
      refine lv_l2d hx hb dX5_whole_40 ?_
      refine lv_dsub hx hb dX5_whole_41 (nn_sub hF _) ?_
      refine p_top (w := .double (sX5_whole_e2 x k)) rfl ?_
      refine lv_dstore (lv' := [(7, .double (sX5_whole_e2 x k)), (5, .long (sX5_whole_j1 x k)), (3, .long (FP.d2l x)), (0, .double x), (2, .int k)]) hx hb dX5_whole_42 hl (by decide) rfl (fun ls hl => ?_)
      refine lv_iload_n hx hb dX5_whole_44 rfl (lv_at hl 4 rfl) ?_
      refine lv_iconst (v := 1) hx hb dX5_whole_45 (by decide) ?_
      refine p_join (J := 100) (nL := 13) (st := [.int (sX5_whole_j3 x k)]) (lv := [(7, .double (sX5_whole_e2 x k)), (5, .long (sX5_whole_j1 x k)), (3, .long (FP.d2l x)), (0, .double x), (2, .int k)]) (fun ls hl => ?_) (fun K4 => ?_)
      rotate_left
      · refine c_icmp_ne (tgt := 64) hx hb dX5_whole_46 (by decide) (fun h4 => ?_) (fun h4 => ?_)
        · skip
          refine lv_iload_n hx hb dX5_whole_64 rfl (lv_at hl 4 rfl) ?_
          refine c_if_ne (tgt := 99) hx hb dX5_whole_65 (by decide) (fun h5 => ?_) (fun h5 => ?_)
          · skip
            refine lv_iconst (v := 0) hx hb dX5_whole_99 (by decide) ?_
            simp only [sX5_whole_j3, if_neg h4, if_neg h5] at K4
            exact K4 ls (lv_sub hl [0, 1, 2, 3, 4] rfl)
          · skip
            refine lv_dload hx hb dX5_whole_68 (lv_at hl 0 rfl) ?_
            refine lv_ldc2d hx hb hown (hts _ q753) dX5_whole_70 ?_
            refine lv_dcmp hx hb dX5_whole_73 ?_
            refine c_if_gt (tgt := 95) hx hb dX5_whole_74 (by decide) (fun h6 => ?_) (fun h6 => ?_)
            · skip
              refine lv_iconst (v := 1) hx hb dX5_whole_95 (by decide) ?_
              refine lv_goto (tgt := 100) hx hb dX5_whole_96 (by decide) ?_
              simp only [sX5_whole_j3, if_neg h4, if_pos h5, if_pos h6] at K4
              exact K4 ls (lv_sub hl [0, 1, 2, 3, 4] rfl)
            · skip
              refine lv_dload hx hb dX5_whole_77 (lv_at hl 0 rfl) ?_
              refine lv_ldc2d hx hb hown (hts _ q753) dX5_whole_79 ?_
              refine lv_dcmp hx hb dX5_whole_82 ?_
              refine c_if_ne (tgt := 99) hx hb dX5_whole_83 (by decide) (fun h7 => ?_) (fun h7 => ?_)
              · skip
                refine lv_iconst (v := 0) hx hb dX5_whole_99 (by decide) ?_
                simp only [sX5_whole_j3, if_neg h4, if_pos h5, if_neg h6, if_neg h7] at K4
                exact K4 ls (lv_sub hl [0, 1, 2, 3, 4] rfl)
              · skip
                refine lv_lload hx hb dX5_whole_86 (lv_at hl 1 rfl) ?_
                refine lv_lconst (v := 1) hx hb dX5_whole_88 (by decide) ?_
                refine lv_land hx hb dX5_whole_89 ?_
                refine lv_lconst (v := 1) hx hb dX5_whole_90 (by decide) ?_
                refine c_lcmp_ne (tgt := 99) hx hb dX5_whole_91 dX5_whole_92 (by decide) (fun h8 => ?_) (fun h8 => ?_)
                · skip
                  refine lv_iconst (v := 0) hx hb dX5_whole_99 (by decide) ?_
                  simp only [sX5_whole_j3, if_neg h4, if_pos h5, if_neg h6, if_pos h7, if_neg h8] at K4
                  exact K4 ls (lv_sub hl [0, 1, 2, 3, 4] rfl)
                · skip
                  refine lv_iconst (v := 1) hx hb dX5_whole_95 (by decide) ?_
                  refine lv_goto (tgt := 100) hx hb dX5_whole_96 (by decide) ?_
                  simp only [sX5_whole_j3, if_neg h4, if_pos h5, if_neg h6, if_pos h7, if_pos h8] at K4
                  exact K4 ls (lv_sub hl [0, 1, 2, 3, 4] rfl)
        · skip
          refine lv_dload hx hb dX5_whole_49 (lv_at hl 0 rfl) ?_
          refine lv_dconst0 hx hb dX5_whole_51 ?_
          refine lv_dcmp hx hb dX5_whole_52 ?_
          refine c_if_le (tgt := 60) hx hb dX5_whole_53 (by decide) (fun h9 => ?_) (fun h9 => ?_)
          · skip
            refine lv_iconst (v := 0) hx hb dX5_whole_60 (by decide) ?_
            refine lv_goto (tgt := 100) hx hb dX5_whole_61 (by decide) ?_
            simp only [sX5_whole_j3, if_pos h4, if_neg h9] at K4
            exact K4 ls (lv_sub hl [0, 1, 2, 3, 4] rfl)
          · skip
            refine lv_iconst (v := 1) hx hb dX5_whole_56 (by decide) ?_
            refine lv_goto (tgt := 100) hx hb dX5_whole_57 (by decide) ?_
            simp only [sX5_whole_j3, if_pos h4, if_pos h9] at K4
            exact K4 ls (lv_sub hl [0, 1, 2, 3, 4] rfl)
      refine lv_istore (lv' := [(9, .int (sX5_whole_j3 x k)), (7, .double (sX5_whole_e2 x k)), (5, .long (sX5_whole_j1 x k)), (3, .long (FP.d2l x)), (0, .double x), (2, .int k)]) hx hb dX5_whole_100 hl (by decide) rfl (fun ls hl => ?_)
      refine lv_iload hx hb dX5_whole_102 (lv_at hl 0 rfl) ?_
      refine p_join (J := 116) (nL := 13) (st := [.long (sX5_whole_j4 x k)]) (lv := [(9, .int (sX5_whole_j3 x k)), (7, .double (sX5_whole_e2 x k)), (5, .long (sX5_whole_j1 x k)), (3, .long (FP.d2l x)), (0, .double x), (2, .int k)]) (fun ls hl => ?_) (fun K10 => ?_)
      rotate_left
      · refine c_if_eq (tgt := 114) hx hb dX5_whole_104 (by decide) (fun h10 => ?_) (fun h10 => ?_)
        · skip
          refine lv_lload hx hb dX5_whole_114 (lv_at hl 2 rfl) ?_
          simp only [sX5_whole_j4, if_pos h10] at K10
          exact K10 ls (lv_sub hl [0, 1, 2, 3, 4, 5] rfl)
        · skip
          refine lv_lload hx hb dX5_whole_107 (lv_at hl 2 rfl) ?_
          refine lv_lconst (v := 1) hx hb dX5_whole_109 (by decide) ?_
          refine lv_ladd hx hb dX5_whole_110 ?_
          refine lv_goto (tgt := 116) hx hb dX5_whole_111 (by decide) ?_
          simp only [sX5_whole_j4, if_neg h10] at K10
          exact K10 ls (lv_sub hl [0, 1, 2, 3, 4, 5] rfl)
      refine lv_lstore (lv' := [(10, .long (sX5_whole_j4 x k)), (9, .int (sX5_whole_j3 x k)), (7, .double (sX5_whole_e2 x k)), (5, .long (sX5_whole_j1 x k)), (3, .long (FP.d2l x)), (0, .double x), (2, .int k)]) hx hb dX5_whole_116 hl (by decide) rfl (fun ls hl => ?_)
      refine lv_dload_n hx hb dX5_whole_118 rfl (lv_at hl 5 rfl) ?_
      refine lv_dconst0 hx hb dX5_whole_119 ?_
      refine lv_dcmp hx hb dX5_whole_120 ?_
      refine p_join (J := 144) (nL := 13) (st := [.int (sX5_whole_j5 x k)]) (lv := [(10, .long (sX5_whole_j4 x k)), (9, .int (sX5_whole_j3 x k)), (7, .double (sX5_whole_e2 x k)), (5, .long (sX5_whole_j1 x k)), (3, .long (FP.d2l x)), (0, .double x), (2, .int k)]) (fun ls hl => ?_) (fun K11 => ?_)
      rotate_left
      · refine c_if_lt (tgt := 139) hx hb dX5_whole_121 (by decide) (fun h11 => ?_) (fun h11 => ?_)
        · skip
          refine lv_iconst (v := 1) hx hb dX5_whole_139 (by decide) ?_
          refine lv_goto (tgt := 144) hx hb dX5_whole_140 (by decide) ?_
          simp only [sX5_whole_j5, if_pos h11] at K11
          exact K11 ls (lv_sub hl [0, 1, 2, 3, 4, 5, 6] rfl)
        · skip
          refine lv_dload_n hx hb dX5_whole_124 rfl (lv_at hl 5 rfl) ?_
          refine lv_dconst0 hx hb dX5_whole_125 ?_
          refine lv_dcmp hx hb dX5_whole_126 ?_
          refine c_if_ne (tgt := 143) hx hb dX5_whole_127 (by decide) (fun h12 => ?_) (fun h12 => ?_)
          · skip
            refine lv_iconst (v := 0) hx hb dX5_whole_143 (by decide) ?_
            simp only [sX5_whole_j5, if_neg h11, if_neg h12] at K11
            exact K11 ls (lv_sub hl [0, 1, 2, 3, 4, 5, 6] rfl)
          · skip
            refine lv_dload_n hx hb dX5_whole_130 rfl (lv_at hl 5 rfl) ?_
            refine p_S (rest := []) hx hb hml hown hts (m_Jxe99ae_doubleToLongBits_ccdee l x) q676 q677 q32 q678 nJxe99ae_doubleToLongBits_ccdee ⟨Nat.le_of_ble_eq_true rfl, Nat.le_of_ble_eq_true rfl⟩ hl.1 rfl rfl (Nat.le_of_ble_eq_true rfl) dX5_whole_131 ⟨Nat.zero_le _, Nat.zero_le _⟩ blind_c (fun _ _ _ => trivial) ?_
            refine lv_lconst (v := 0) hx hb dX5_whole_134 (by decide) ?_
            refine c_lcmp_ge (tgt := 143) hx hb dX5_whole_135 dX5_whole_136 (by decide) (fun h13 => ?_) (fun h13 => ?_)
            · skip
              refine lv_iconst (v := 0) hx hb dX5_whole_143 (by decide) ?_
              simp only [sX5_whole_j5, if_neg h11, if_pos h12, if_neg h13] at K11
              exact K11 ls (lv_sub hl [0, 1, 2, 3, 4, 5, 6] rfl)
            · skip
              refine lv_iconst (v := 1) hx hb dX5_whole_139 (by decide) ?_
              refine lv_goto (tgt := 144) hx hb dX5_whole_140 (by decide) ?_
              simp only [sX5_whole_j5, if_neg h11, if_pos h12, if_pos h13] at K11
              exact K11 ls (lv_sub hl [0, 1, 2, 3, 4, 5, 6] rfl)
      refine lv_istore (lv' := [(12, .int (sX5_whole_j5 x k)), (10, .long (sX5_whole_j4 x k)), (9, .int (sX5_whole_j3 x k)), (7, .double (sX5_whole_e2 x k)), (5, .long (sX5_whole_j1 x k)), (3, .long (FP.d2l x)), (0, .double x), (2, .int k)]) hx hb dX5_whole_144 hl (by decide) rfl (fun ls hl => ?_)
      refine lv_lload hx hb dX5_whole_146 (lv_at hl 1 rfl) ?_
      refine lv_lconst (v := 0) hx hb dX5_whole_148 (by decide) ?_
      refine c_lcmp_ne (tgt := 164) hx hb dX5_whole_149 dX5_whole_150 (by decide) (fun h14 => ?_) (fun h14 => ?_)
      · skip
        refine lv_lload hx hb dX5_whole_164 (lv_at hl 1 rfl) ?_
        refine lv_l2d hx hb dX5_whole_166 ?_
        exact W.dret hx hb hr (fun t ht hW => pq_d (by rw [sX5_whole, if_pos h1, if_pos h2, if_neg h14]) ht) nil_free dX5_whole_167
      · skip
        refine lv_iload hx hb dX5_whole_153 (lv_at hl 0 rfl) ?_
        refine c_if_eq (tgt := 164) hx hb dX5_whole_155 (by decide) (fun h15 => ?_) (fun h15 => ?_)
        · skip
          refine lv_lload hx hb dX5_whole_164 (lv_at hl 1 rfl) ?_
          refine lv_l2d hx hb dX5_whole_166 ?_
          exact W.dret hx hb hr (fun t ht hW => pq_d (by rw [sX5_whole, if_pos h1, if_pos h2, if_pos h14, if_pos h15]) ht) nil_free dX5_whole_167
        · skip
          refine lv_ldc2d hx hb hown (hts _ q754) dX5_whole_158 ?_
          refine lv_goto (tgt := 167) hx hb dX5_whole_161 (by decide) ?_
          exact W.dret hx hb hr (fun t ht hW => pq_d (by rw [sX5_whole, if_pos h1, if_pos h2, if_pos h14, if_neg h15]) ht) nil_free dX5_whole_167
    · skip
      refine lv_dload_n hx hb dX5_whole_16 rfl (lv_at hl 0 rfl) ?_
      exact W.dret hx hb hr (fun t ht hW => pq_d (by rw [sX5_whole, if_pos h1, if_neg h2]) ht) nil_free dX5_whole_17
def sX5_power (k : Int32) : UInt64 := if k < 0 then (FP.ddiv FP.dconst1 (FP.i2d ((1 : Int32) <<< ((-k) &&& 31)))) else (FP.i2d ((1 : Int32) <<< (k &&& 31)))
theorem nX5_power : yX5_power.cls ≠ "java/lang/invoke/MethodHandle" ∧ yX5_power.cls ≠ "java/lang/invoke/VarHandle" ∧ (parseMethodDescriptor yX5_power.desc).map (fun d => d.parameters.length) = some 1 := by decide +kernel
set_option maxHeartbeats 4000000 in
set_option maxRecDepth 100000 in
theorem m_X5_power (l : Launch) (k : Int32) (hp : k < 0 → vf_n64 (FP.ddiv FP.dconst1 (FP.i2d ((1 : Int32) <<< ((-k) &&& 31))))) : PM l yX5_power cX5_power 1 (some .double) 0 [.int k] (fun _ => True) (.double (sX5_power k)) := by
  refine Met.ofW (cc := cX5_power) (maxL := 1) (ret := (some .double)) (by decide) rfl ?_
  intro p e s m args below meth c s₁ B hml hv
  obtain ⟨rfl, -⟩ := hv
  have hx := B.exec
  have hb := B.bytes
  have hr := B.returns
  have hts : ∀ w ∈ AW, w.before _ s = true := fun w h => atoms_spec (ws := Cond.code yX5_power cX5_power 1 (some .double) :: AW) B.pre w (List.mem_cons_of_mem _ h)
  have hown : s.vm.findClass RX5 = some m.cls := findClass_of_methodNamed B.named
  have hlocks := B.notSynchronized
  have hl := lv_entry ([.int k]) (n := 1) (Nat.le_of_ble_eq_true rfl)
  rw [lg_entry_eq]
  generalize (lg_sl ([.int k]) ++ List.replicate (1 - (lg_sl ([.int k])).length) Slot.unset).toArray = ls at hl ⊢
  have hl : lv_has ls 1 [(0, .int k)] := hl
  refine lv_iload_n hx hb dX5_power_0 rfl (lv_at hl 0 rfl) ?_
  refine c_if_lt (tgt := 11) hx hb dX5_power_1 (by decide) (fun h1 => ?_) (fun h1 => ?_)
  · skip
    refine lv_dconst1 hx hb dX5_power_11 ?_
    refine lv_iconst (v := 1) hx hb dX5_power_12 (by decide) ?_
    refine lv_iload_n hx hb dX5_power_13 rfl (lv_at hl 0 rfl) ?_
    refine lv_ineg hx hb dX5_power_14 ?_
    refine lv_ishl hx hb dX5_power_15 ?_
    refine lv_i2d hx hb dX5_power_16 ?_
    refine lv_ddiv hx hb dX5_power_17 (hp h1) ?_
    exact W.dret hx hb hr (fun t ht hW => pq_d (by rw [sX5_power, if_pos h1]) ht) nil_free dX5_power_18
  · skip
    refine lv_iconst (v := 1) hx hb dX5_power_4 (by decide) ?_
    refine lv_iload_n hx hb dX5_power_5 rfl (lv_at hl 0 rfl) ?_
    refine lv_ishl hx hb dX5_power_6 ?_
    refine lv_i2d hx hb dX5_power_7 ?_
    refine lv_goto (tgt := 18) hx hb dX5_power_8 (by decide) ?_
    exact W.dret hx hb hr (fun t ht hW => pq_d (by rw [sX5_power, if_neg h1]) ht) nil_free dX5_power_18
