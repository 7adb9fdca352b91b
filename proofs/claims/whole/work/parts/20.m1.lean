def sX5_isBalance (a : Int32) : Int32 := if a < 0 then (0 : Int32) else if a < (16 : Int32) then (1 : Int32) else (0 : Int32)
theorem nX5_isBalance : yX5_isBalance.cls ≠ "java/lang/invoke/MethodHandle" ∧ yX5_isBalance.cls ≠ "java/lang/invoke/VarHandle" ∧ (parseMethodDescriptor yX5_isBalance.desc).map (fun d => d.parameters.length) = some 1 := by decide +kernel
set_option maxHeartbeats 4000000 in
set_option maxRecDepth 100000 in
theorem m_X5_isBalance (l : Launch) (a : Int32) : PM l yX5_isBalance cX5_isBalance 1 (some .boolean) 0 [.int a] (fun _ => True) (.int (sX5_isBalance a)) := by
  refine Met.ofW (cc := cX5_isBalance) (maxL := 1) (ret := (some .boolean)) (by decide) rfl ?_
  intro p e s m args below meth c s₁ B hml hv
  obtain ⟨rfl, -⟩ := hv
  have hx := B.exec
  have hb := B.bytes
  have hr := B.returns
  have hts : ∀ w ∈ AW, w.before _ s = true := fun w h => atoms_spec (ws := Cond.code yX5_isBalance cX5_isBalance 1 (some .boolean) :: AW) B.pre w (List.mem_cons_of_mem _ h)
  have hown : s.vm.findClass RX5 = some m.cls := findClass_of_methodNamed B.named
  have hlocks := B.notSynchronized
  have hl := lv_entry ([.int a]) (n := 1) (Nat.le_of_ble_eq_true rfl)
  rw [lg_entry_eq]
  generalize (lg_sl ([.int a]) ++ List.replicate (1 - (lg_sl ([.int a])).length) Slot.unset).toArray = ls at hl ⊢
  have hl : lv_has ls 1 [(0, .int a)] := hl
  refine lv_iload_n hx hb dX5_isBalance_0 rfl (lv_at hl 0 rfl) ?_
  refine c_if_lt (tgt := 14) hx hb dX5_isBalance_1 (by decide) (fun h1 => ?_) (fun h1 => ?_)
  · skip
    refine lv_iconst (v := 0) hx hb dX5_isBalance_14 (by decide) ?_
    exact W.zret (v := (0 : Int32)) hx hb hr rfl (fun t ht hW => pq_i (by rw [sX5_isBalance, if_pos h1]) ht) nil_free dX5_isBalance_15
  · skip
    refine lv_iload_n hx hb dX5_isBalance_4 rfl (lv_at hl 0 rfl) ?_
    refine lv_bipush (v := 16) hx hb dX5_isBalance_5 (by decide) ?_
    refine c_icmp_ge (tgt := 14) hx hb dX5_isBalance_7 (by decide) (fun h2 => ?_) (fun h2 => ?_)
    · skip
      refine lv_iconst (v := 0) hx hb dX5_isBalance_14 (by decide) ?_
      exact W.zret (v := (0 : Int32)) hx hb hr rfl (fun t ht hW => pq_i (by rw [sX5_isBalance, if_neg h1, if_neg h2]) ht) nil_free dX5_isBalance_15
    · skip
      refine lv_iconst (v := 1) hx hb dX5_isBalance_10 (by decide) ?_
      refine lv_goto (tgt := 15) hx hb dX5_isBalance_11 (by decide) ?_
      exact W.zret (v := (1 : Int32)) hx hb hr rfl (fun t ht hW => pq_i (by rw [sX5_isBalance, if_neg h1, if_pos h2]) ht) nil_free dX5_isBalance_15
def sX5_isWhole (a : Int32) : Int32 := if a < (2 : Int32) then (1 : Int32) else (0 : Int32)
theorem nX5_isWhole : yX5_isWhole.cls ≠ "java/lang/invoke/MethodHandle" ∧ yX5_isWhole.cls ≠ "java/lang/invoke/VarHandle" ∧ (parseMethodDescriptor yX5_isWhole.desc).map (fun d => d.parameters.length) = some 1 := by decide +kernel
set_option maxHeartbeats 4000000 in
set_option maxRecDepth 100000 in
theorem m_X5_isWhole (l : Launch) (a : Int32) : PM l yX5_isWhole cX5_isWhole 1 (some .boolean) 0 [.int a] (fun _ => True) (.int (sX5_isWhole a)) := by
  refine Met.ofW (cc := cX5_isWhole) (maxL := 1) (ret := (some .boolean)) (by decide) rfl ?_
  intro p e s m args below meth c s₁ B hml hv
  obtain ⟨rfl, -⟩ := hv
  have hx := B.exec
  have hb := B.bytes
  have hr := B.returns
  have hts : ∀ w ∈ AW, w.before _ s = true := fun w h => atoms_spec (ws := Cond.code yX5_isWhole cX5_isWhole 1 (some .boolean) :: AW) B.pre w (List.mem_cons_of_mem _ h)
  have hown : s.vm.findClass RX5 = some m.cls := findClass_of_methodNamed B.named
  have hlocks := B.notSynchronized
  have hl := lv_entry ([.int a]) (n := 1) (Nat.le_of_ble_eq_true rfl)
  rw [lg_entry_eq]
  generalize (lg_sl ([.int a]) ++ List.replicate (1 - (lg_sl ([.int a])).length) Slot.unset).toArray = ls at hl ⊢
  have hl : lv_has ls 1 [(0, .int a)] := hl
  refine lv_iload_n hx hb dX5_isWhole_0 rfl (lv_at hl 0 rfl) ?_
  refine lv_iconst (v := 2) hx hb dX5_isWhole_1 (by decide) ?_
  refine c_icmp_ge (tgt := 9) hx hb dX5_isWhole_2 (by decide) (fun h1 => ?_) (fun h1 => ?_)
  · skip
    refine lv_iconst (v := 0) hx hb dX5_isWhole_9 (by decide) ?_
    exact W.zret (v := (0 : Int32)) hx hb hr rfl (fun t ht hW => pq_i (by rw [sX5_isWhole, if_neg h1]) ht) nil_free dX5_isWhole_10
  · skip
    refine lv_iconst (v := 1) hx hb dX5_isWhole_5 (by decide) ?_
    refine lv_goto (tgt := 10) hx hb dX5_isWhole_6 (by decide) ?_
    exact W.zret (v := (1 : Int32)) hx hb hr rfl (fun t ht hW => pq_i (by rw [sX5_isWhole, if_pos h1]) ht) nil_free dX5_isWhole_10
def sX5_wrapped (a : Int32) (v : Int64) : Int64 := if a = 0 then v.toInt32.toInt64 else v
theorem nX5_wrapped : yX5_wrapped.cls ≠ "java/lang/invoke/MethodHandle" ∧ yX5_wrapped.cls ≠ "java/lang/invoke/VarHandle" ∧ (parseMethodDescriptor yX5_wrapped.desc).map (fun d => d.parameters.length) = some 2 := by decide +kernel
set_option maxHeartbeats 4000000 in
set_option maxRecDepth 100000 in
theorem m_X5_wrapped (l : Launch) (a : Int32) (v : Int64) : PM l yX5_wrapped cX5_wrapped 3 (some .long) 0 [.int a, .long v] (fun _ => True) (.long (sX5_wrapped a v)) := by
  refine Met.ofW (cc := cX5_wrapped) (maxL := 3) (ret := (some .long)) (by decide) rfl ?_
  intro p e s m args below meth c s₁ B hml hv
  obtain ⟨rfl, -⟩ := hv
  have hx := B.exec
  have hb := B.bytes
  have hr := B.returns
  have hts : ∀ w ∈ AW, w.before _ s = true := fun w h => atoms_spec (ws := Cond.code yX5_wrapped cX5_wrapped 3 (some .long) :: AW) B.pre w (List.mem_cons_of_mem _ h)
  have hown : s.vm.findClass RX5 = some m.cls := findClass_of_methodNamed B.named
  have hlocks := B.notSynchronized
  have hl := lv_entry ([.int a, .long v]) (n := 3) (Nat.le_of_ble_eq_true rfl)
  rw [lg_entry_eq]
  generalize (lg_sl ([.int a, .long v]) ++ List.replicate (3 - (lg_sl ([.int a, .long v])).length) Slot.unset).toArray = ls at hl ⊢
  have hl : lv_has ls 3 [(0, .int a), (1, .long v)] := hl
  refine lv_iload_n hx hb dX5_wrapped_0 rfl (lv_at hl 0 rfl) ?_
  refine c_if_ne (tgt := 10) hx hb dX5_wrapped_1 (by decide) (fun h1 => ?_) (fun h1 => ?_)
  · skip
    refine lv_lload_n hx hb dX5_wrapped_10 rfl (lv_at hl 1 rfl) ?_
    exact W.lret hx hb hr (fun t ht hW => pq_l (by rw [sX5_wrapped, if_neg h1]) ht) nil_free dX5_wrapped_11
  · skip
    refine lv_lload_n hx hb dX5_wrapped_4 rfl (lv_at hl 1 rfl) ?_
    refine lv_l2i hx hb dX5_wrapped_5 rfl ?_
    refine lv_i2l hx hb dX5_wrapped_6 rfl ?_
    refine lv_goto (tgt := 11) hx hb dX5_wrapped_7 (by decide) ?_
    exact W.lret hx hb hr (fun t ht hW => pq_l (by rw [sX5_wrapped, if_pos h1]) ht) nil_free dX5_wrapped_11
def sX5_isNone (a : Int32) (v : Int64) : Int32 := if a = (2 : Int32) then if (v &&& (2139095040 : Int64)) = (2139095040 : Int64) then if (v &&& (8388607 : Int64)) = (0 : Int64) then (0 : Int32) else (1 : Int32) else (0 : Int32) else if (2 : Int32) < a then if (v &&& (9218868437227405312 : Int64)) = (9218868437227405312 : Int64) then if (v &&& (4503599627370495 : Int64)) = (0 : Int64) then (0 : Int32) else (1 : Int32) else (0 : Int32) else (0 : Int32)
theorem nX5_isNone : yX5_isNone.cls ≠ "java/lang/invoke/MethodHandle" ∧ yX5_isNone.cls ≠ "java/lang/invoke/VarHandle" ∧ (parseMethodDescriptor yX5_isNone.desc).map (fun d => d.parameters.length) = some 2 := by decide +kernel
set_option maxHeartbeats 4000000 in
set_option maxRecDepth 100000 in
theorem m_X5_isNone (l : Launch) (a : Int32) (v : Int64) : PM l yX5_isNone cX5_isNone 3 (some .boolean) 0 [.int a, .long v] (fun _ => True) (.int (sX5_isNone a v)) := by
  refine Met.ofW (cc := cX5_isNone) (maxL := 3) (ret := (some .boolean)) (by decide) rfl ?_
  intro p e s m args below meth c s₁ B hml hv
  obtain ⟨rfl, -⟩ := hv
  have hx := B.exec
  have hb := B.bytes
  have hr := B.returns
  have hts : ∀ w ∈ AW, w.before _ s = true := fun w h => atoms_spec (ws := Cond.code yX5_isNone cX5_isNone 3 (some .boolean) :: AW) B.pre w (List.mem_cons_of_mem _ h)
  have hown : s.vm.findClass RX5 = some m.cls := findClass_of_methodNamed B.named
  have hlocks := B.notSynchronized
  have hl := lv_entry ([.int a, .long v]) (n := 3) (Nat.le_of_ble_eq_true rfl)
  rw [lg_entry_eq]
  generalize (lg_sl ([.int a, .long v]) ++ List.replicate (3 - (lg_sl ([.int a, .long v])).length) Slot.unset).toArray = ls at hl ⊢
  have hl : lv_has ls 3 [(0, .int a), (1, .long v)] := hl
  refine lv_iload_n hx hb dX5_isNone_0 rfl (lv_at hl 0 rfl) ?_
  refine lv_iconst (v := 2) hx hb dX5_isNone_1 (by decide) ?_
  refine c_icmp_ne (tgt := 33) hx hb dX5_isNone_2 (by decide) (fun h1 => ?_) (fun h1 => ?_)
  · skip
    refine lv_iload_n hx hb dX5_isNone_33 rfl (lv_at hl 0 rfl) ?_
    refine lv_iconst (v := 2) hx hb dX5_isNone_34 (by decide) ?_
    refine c_icmp_le (tgt := 64) hx hb dX5_isNone_35 (by decide) (fun h2 => ?_) (fun h2 => ?_)
    · skip
      refine lv_iconst (v := 0) hx hb dX5_isNone_64 (by decide) ?_
      exact W.zret (v := (0 : Int32)) hx hb hr rfl (fun t ht hW => pq_i (by rw [sX5_isNone, if_neg h1, if_neg h2]) ht) nil_free dX5_isNone_65
    · skip
      refine lv_lload_n hx hb dX5_isNone_38 rfl (lv_at hl 1 rfl) ?_
      refine lv_ldc2 hx hb hown (hts _ q634) dX5_isNone_39 ?_
      refine lv_land hx hb dX5_isNone_42 ?_
      refine lv_ldc2 hx hb hown (hts _ q634) dX5_isNone_43 ?_
      refine c_lcmp_ne (tgt := 64) hx hb dX5_isNone_46 dX5_isNone_47 (by decide) (fun h3 => ?_) (fun h3 => ?_)
      · skip
        refine lv_iconst (v := 0) hx hb dX5_isNone_64 (by decide) ?_
        exact W.zret (v := (0 : Int32)) hx hb hr rfl (fun t ht hW => pq_i (by rw [sX5_isNone, if_neg h1, if_pos h2, if_neg h3]) ht) nil_free dX5_isNone_65
      · skip
        refine lv_lload_n hx hb dX5_isNone_50 rfl (lv_at hl 1 rfl) ?_
        refine lv_ldc2 hx hb hown (hts _ q635) dX5_isNone_51 ?_
        refine lv_land hx hb dX5_isNone_54 ?_
        refine lv_lconst (v := 0) hx hb dX5_isNone_55 (by decide) ?_
        refine c_lcmp_eq (tgt := 64) hx hb dX5_isNone_56 dX5_isNone_57 (by decide) (fun h4 => ?_) (fun h4 => ?_)
        · skip
          refine lv_iconst (v := 0) hx hb dX5_isNone_64 (by decide) ?_
          exact W.zret (v := (0 : Int32)) hx hb hr rfl (fun t ht hW => pq_i (by rw [sX5_isNone, if_neg h1, if_pos h2, if_pos h3, if_pos h4]) ht) nil_free dX5_isNone_65
        · skip
          refine lv_iconst (v := 1) hx hb dX5_isNone_60 (by decide) ?_
          refine lv_goto (tgt := 65) hx hb dX5_isNone_61 (by decide) ?_
          exact W.zret (v := (1 : Int32)) hx hb hr rfl (fun t ht hW => pq_i (by rw [sX5_isNone, if_neg h1, if_pos h2, if_pos h3, if_neg h4]) ht) nil_free dX5_isNone_65
  · skip
    refine lv_lload_n hx hb dX5_isNone_5 rfl (lv_at hl 1 rfl) ?_
    refine lv_ldc2 hx hb hown (hts _ q632) dX5_isNone_6 ?_
    refine lv_land hx hb dX5_isNone_9 ?_
    refine lv_ldc2 hx hb hown (hts _ q632) dX5_isNone_10 ?_
    refine c_lcmp_ne (tgt := 31) hx hb dX5_isNone_13 dX5_isNone_14 (by decide) (fun h5 => ?_) (fun h5 => ?_)
    · skip
      refine lv_iconst (v := 0) hx hb dX5_isNone_31 (by decide) ?_
      exact W.zret (v := (0 : Int32)) hx hb hr rfl (fun t ht hW => pq_i (by rw [sX5_isNone, if_pos h1, if_neg h5]) ht) nil_free dX5_isNone_32
    · skip
      refine lv_lload_n hx hb dX5_isNone_17 rfl (lv_at hl 1 rfl) ?_
      refine lv_ldc2 hx hb hown (hts _ q633) dX5_isNone_18 ?_
      refine lv_land hx hb dX5_isNone_21 ?_
      refine lv_lconst (v := 0) hx hb dX5_isNone_22 (by decide) ?_
      refine c_lcmp_eq (tgt := 31) hx hb dX5_isNone_23 dX5_isNone_24 (by decide) (fun h6 => ?_) (fun h6 => ?_)
      · skip
        refine lv_iconst (v := 0) hx hb dX5_isNone_31 (by decide) ?_
        exact W.zret (v := (0 : Int32)) hx hb hr rfl (fun t ht hW => pq_i (by rw [sX5_isNone, if_pos h1, if_pos h5, if_pos h6]) ht) nil_free dX5_isNone_32
      · skip
        refine lv_iconst (v := 1) hx hb dX5_isNone_27 (by decide) ?_
        refine lv_goto (tgt := 32) hx hb dX5_isNone_28 (by decide) ?_
        exact W.zret (v := (1 : Int32)) hx hb hr rfl (fun t ht hW => pq_i (by rw [sX5_isNone, if_pos h1, if_pos h5, if_neg h6]) ht) nil_free dX5_isNone_32
def sX5_isNegative (v : Int64) : Int32 := if v < (0 : Int64) then (1 : Int32) else (0 : Int32)
theorem nX5_isNegative : yX5_isNegative.cls ≠ "java/lang/invoke/MethodHandle" ∧ yX5_isNegative.cls ≠ "java/lang/invoke/VarHandle" ∧ (parseMethodDescriptor yX5_isNegative.desc).map (fun d => d.parameters.length) = some 1 := by decide +kernel
set_option maxHeartbeats 4000000 in
set_option maxRecDepth 100000 in
theorem m_X5_isNegative (l : Launch) (v : Int64) : PM l yX5_isNegative cX5_isNegative 2 (some .boolean) 0 [.long v] (fun _ => True) (.int (sX5_isNegative v)) := by
  refine Met.ofW (cc := cX5_isNegative) (maxL := 2) (ret := (some .boolean)) (by decide) rfl ?_
  intro p e s m args below meth c s₁ B hml hv
  obtain ⟨rfl, -⟩ := hv
  have hx := B.exec
  have hb := B.bytes
  have hr := B.returns
  have hts : ∀ w ∈ AW, w.before _ s = true := fun w h => atoms_spec (ws := Cond.code yX5_isNegative cX5_isNegative 2 (some .boolean) :: AW) B.pre w (List.mem_cons_of_mem _ h)
  have hown : s.vm.findClass RX5 = some m.cls := findClass_of_methodNamed B.named
  have hlocks := B.notSynchronized
  have hl := lv_entry ([.long v]) (n := 2) (Nat.le_of_ble_eq_true rfl)
  rw [lg_entry_eq]
  generalize (lg_sl ([.long v]) ++ List.replicate (2 - (lg_sl ([.long v])).length) Slot.unset).toArray = ls at hl ⊢
  have hl : lv_has ls 2 [(0, .long v)] := hl
  refine lv_lload_n hx hb dX5_isNegative_0 rfl (lv_at hl 0 rfl) ?_
  refine lv_lconst (v := 0) hx hb dX5_isNegative_1 (by decide) ?_
  refine c_lcmp_ge (tgt := 10) hx hb dX5_isNegative_2 dX5_isNegative_3 (by decide) (fun h1 => ?_) (fun h1 => ?_)
  · skip
    refine lv_iconst (v := 0) hx hb dX5_isNegative_10 (by decide) ?_
    exact W.zret (v := (0 : Int32)) hx hb hr rfl (fun t ht hW => pq_i (by rw [sX5_isNegative, if_neg h1]) ht) nil_free dX5_isNegative_11
  · skip
    refine lv_iconst (v := 1) hx hb dX5_isNegative_6 (by decide) ?_
    refine lv_goto (tgt := 11) hx hb dX5_isNegative_7 (by decide) ?_
    exact W.zret (v := (1 : Int32)) hx hb hr rfl (fun t ht hW => pq_i (by rw [sX5_isNegative, if_pos h1]) ht) nil_free dX5_isNegative_11
def sX5_isInfinite (a : Int32) (v : Int64) : Int32 := if a = (2 : Int32) then if (v &&& (2147483647 : Int64)) = (2139095040 : Int64) then (1 : Int32) else (0 : Int32) else if (v &&& (9223372036854775807 : Int64)) = (9218868437227405312 : Int64) then (1 : Int32) else (0 : Int32)
theorem nX5_isInfinite : yX5_isInfinite.cls ≠ "java/lang/invoke/MethodHandle" ∧ yX5_isInfinite.cls ≠ "java/lang/invoke/VarHandle" ∧ (parseMethodDescriptor yX5_isInfinite.desc).map (fun d => d.parameters.length) = some 2 := by decide +kernel
set_option maxHeartbeats 4000000 in
set_option maxRecDepth 100000 in
theorem m_X5_isInfinite (l : Launch) (a : Int32) (v : Int64) : PM l yX5_isInfinite cX5_isInfinite 3 (some .boolean) 0 [.int a, .long v] (fun _ => True) (.int (sX5_isInfinite a v)) := by
  refine Met.ofW (cc := cX5_isInfinite) (maxL := 3) (ret := (some .boolean)) (by decide) rfl ?_
  intro p e s m args below meth c s₁ B hml hv
  obtain ⟨rfl, -⟩ := hv
  have hx := B.exec
  have hb := B.bytes
  have hr := B.returns
  have hts : ∀ w ∈ AW, w.before _ s = true := fun w h => atoms_spec (ws := Cond.code yX5_isInfinite cX5_isInfinite 3 (some .boolean) :: AW) B.pre w (List.mem_cons_of_mem _ h)
  have hown : s.vm.findClass RX5 = some m.cls := findClass_of_methodNamed B.named
  have hlocks := B.notSynchronized
  have hl := lv_entry ([.int a, .long v]) (n := 3) (Nat.le_of_ble_eq_true rfl)
  rw [lg_entry_eq]
  generalize (lg_sl ([.int a, .long v]) ++ List.replicate (3 - (lg_sl ([.int a, .long v])).length) Slot.unset).toArray = ls at hl ⊢
  have hl : lv_has ls 3 [(0, .int a), (1, .long v)] := hl
  refine lv_iload_n hx hb dX5_isInfinite_0 rfl (lv_at hl 0 rfl) ?_
  refine lv_iconst (v := 2) hx hb dX5_isInfinite_1 (by decide) ?_
  refine c_icmp_ne (tgt := 25) hx hb dX5_isInfinite_2 (by decide) (fun h1 => ?_) (fun h1 => ?_)
  · skip
    refine lv_lload_n hx hb dX5_isInfinite_25 rfl (lv_at hl 1 rfl) ?_
    refine lv_ldc2 hx hb hown (hts _ q653) dX5_isInfinite_26 ?_
    refine lv_land hx hb dX5_isInfinite_29 ?_
    refine lv_ldc2 hx hb hown (hts _ q634) dX5_isInfinite_30 ?_
    refine c_lcmp_ne (tgt := 41) hx hb dX5_isInfinite_33 dX5_isInfinite_34 (by decide) (fun h2 => ?_) (fun h2 => ?_)
    · skip
      refine lv_iconst (v := 0) hx hb dX5_isInfinite_41 (by decide) ?_
      exact W.zret (v := (0 : Int32)) hx hb hr rfl (fun t ht hW => pq_i (by rw [sX5_isInfinite, if_neg h1, if_neg h2]) ht) nil_free dX5_isInfinite_42
    · skip
      refine lv_iconst (v := 1) hx hb dX5_isInfinite_37 (by decide) ?_
      refine lv_goto (tgt := 42) hx hb dX5_isInfinite_38 (by decide) ?_
      exact W.zret (v := (1 : Int32)) hx hb hr rfl (fun t ht hW => pq_i (by rw [sX5_isInfinite, if_neg h1, if_pos h2]) ht) nil_free dX5_isInfinite_42
  · skip
    refine lv_lload_n hx hb dX5_isInfinite_5 rfl (lv_at hl 1 rfl) ?_
    refine lv_ldc2 hx hb hown (hts _ q652) dX5_isInfinite_6 ?_
    refine lv_land hx hb dX5_isInfinite_9 ?_
    refine lv_ldc2 hx hb hown (hts _ q632) dX5_isInfinite_10 ?_
    refine c_lcmp_ne (tgt := 21) hx hb dX5_isInfinite_13 dX5_isInfinite_14 (by decide) (fun h3 => ?_) (fun h3 => ?_)
    · skip
      refine lv_iconst (v := 0) hx hb dX5_isInfinite_21 (by decide) ?_
      refine lv_goto (tgt := 42) hx hb dX5_isInfinite_22 (by decide) ?_
      exact W.zret (v := (0 : Int32)) hx hb hr rfl (fun t ht hW => pq_i (by rw [sX5_isInfinite, if_pos h1, if_neg h3]) ht) nil_free dX5_isInfinite_42
    · skip
      refine lv_iconst (v := 1) hx hb dX5_isInfinite_17 (by decide) ?_
      refine lv_goto (tgt := 42) hx hb dX5_isInfinite_18 (by decide) ?_
      exact W.zret (v := (1 : Int32)) hx hb hr rfl (fun t ht hW => pq_i (by rw [sX5_isInfinite, if_pos h1, if_pos h3]) ht) nil_free dX5_isInfinite_42
def sX5_asks (a : Int32) : Int32 := if a = (5 : Int32) then (1 : Int32) else if a = (6 : Int32) then (1 : Int32) else if a = (7 : Int32) then (1 : Int32) else if a = (9 : Int32) then (1 : Int32) else if a = (11 : Int32) then (1 : Int32) else (0 : Int32)
theorem nX5_asks : yX5_asks.cls ≠ "java/lang/invoke/MethodHandle" ∧ yX5_asks.cls ≠ "java/lang/invoke/VarHandle" ∧ (parseMethodDescriptor yX5_asks.desc).map (fun d => d.parameters.length) = some 1 := by decide +kernel
set_option maxHeartbeats 4000000 in
set_option maxRecDepth 100000 in
theorem m_X5_asks (l : Launch) (a : Int32) : PM l yX5_asks cX5_asks 1 (some .boolean) 0 [.int a] (fun _ => True) (.int (sX5_asks a)) := by
  refine Met.ofW (cc := cX5_asks) (maxL := 1) (ret := (some .boolean)) (by decide) rfl ?_
  intro p e s m args below meth c s₁ B hml hv
  obtain ⟨rfl, -⟩ := hv
  have hx := B.exec
  have hb := B.bytes
  have hr := B.returns
  have hts : ∀ w ∈ AW, w.before _ s = true := fun w h => atoms_spec (ws := Cond.code yX5_asks cX5_asks 1 (some .boolean) :: AW) B.pre w (List.mem_cons_of_mem _ h)
  have hown : s.vm.findClass RX5 = some m.cls := findClass_of_methodNamed B.named
  have hlocks := B.notSynchronized
  have hl := lv_entry ([.int a]) (n := 1) (Nat.le_of_ble_eq_true rfl)
  rw [lg_entry_eq]
  generalize (lg_sl ([.int a]) ++ List.replicate (1 - (lg_sl ([.int a])).length) Slot.unset).toArray = ls at hl ⊢
  have hl : lv_has ls 1 [(0, .int a)] := hl
  refine lv_iload_n hx hb dX5_asks_0 rfl (lv_at hl 0 rfl) ?_
  refine lv_iconst (v := 5) hx hb dX5_asks_1 (by decide) ?_
  refine c_icmp_eq (tgt := 29) hx hb dX5_asks_2 (by decide) (fun h1 => ?_) (fun h1 => ?_)
  · skip
    refine lv_iconst (v := 1) hx hb dX5_asks_29 (by decide) ?_
    refine lv_goto (tgt := 34) hx hb dX5_asks_30 (by decide) ?_
    exact W.zret (v := (1 : Int32)) hx hb hr rfl (fun t ht hW => pq_i (by rw [sX5_asks, if_pos h1]) ht) nil_free dX5_asks_34
  · skip
    refine lv_iload_n hx hb dX5_asks_5 rfl (lv_at hl 0 rfl) ?_
    refine lv_bipush (v := 6) hx hb dX5_asks_6 (by decide) ?_
    refine c_icmp_eq (tgt := 29) hx hb dX5_asks_8 (by decide) (fun h2 => ?_) (fun h2 => ?_)
    · skip
      refine lv_iconst (v := 1) hx hb dX5_asks_29 (by decide) ?_
      refine lv_goto (tgt := 34) hx hb dX5_asks_30 (by decide) ?_
      exact W.zret (v := (1 : Int32)) hx hb hr rfl (fun t ht hW => pq_i (by rw [sX5_asks, if_neg h1, if_pos h2]) ht) nil_free dX5_asks_34
    · skip
      refine lv_iload_n hx hb dX5_asks_11 rfl (lv_at hl 0 rfl) ?_
      refine lv_bipush (v := 7) hx hb dX5_asks_12 (by decide) ?_
      refine c_icmp_eq (tgt := 29) hx hb dX5_asks_14 (by decide) (fun h3 => ?_) (fun h3 => ?_)
      · skip
        refine lv_iconst (v := 1) hx hb dX5_asks_29 (by decide) ?_
        refine lv_goto (tgt := 34) hx hb dX5_asks_30 (by decide) ?_
        exact W.zret (v := (1 : Int32)) hx hb hr rfl (fun t ht hW => pq_i (by rw [sX5_asks, if_neg h1, if_neg h2, if_pos h3]) ht) nil_free dX5_asks_34
      · skip
        refine lv_iload_n hx hb dX5_asks_17 rfl (lv_at hl 0 rfl) ?_
        refine lv_bipush (v := 9) hx hb dX5_asks_18 (by decide) ?_
        refine c_icmp_eq (tgt := 29) hx hb dX5_asks_20 (by decide) (fun h4 => ?_) (fun h4 => ?_)
        · skip
          refine lv_iconst (v := 1) hx hb dX5_asks_29 (by decide) ?_
          refine lv_goto (tgt := 34) hx hb dX5_asks_30 (by decide) ?_
          exact W.zret (v := (1 : Int32)) hx hb hr rfl (fun t ht hW => pq_i (by rw [sX5_asks, if_neg h1, if_neg h2, if_neg h3, if_pos h4]) ht) nil_free dX5_asks_34
        · skip
          refine lv_iload_n hx hb dX5_asks_23 rfl (lv_at hl 0 rfl) ?_
          refine lv_bipush (v := 11) hx hb dX5_asks_24 (by decide) ?_
          refine c_icmp_ne (tgt := 33) hx hb dX5_asks_26 (by decide) (fun h5 => ?_) (fun h5 => ?_)
          · skip
            refine lv_iconst (v := 0) hx hb dX5_asks_33 (by decide) ?_
            exact W.zret (v := (0 : Int32)) hx hb hr rfl (fun t ht hW => pq_i (by rw [sX5_asks, if_neg h1, if_neg h2, if_neg h3, if_neg h4, if_neg h5]) ht) nil_free dX5_asks_34
          · skip
            refine lv_iconst (v := 1) hx hb dX5_asks_29 (by decide) ?_
            refine lv_goto (tgt := 34) hx hb dX5_asks_30 (by decide) ?_
            exact W.zret (v := (1 : Int32)) hx hb hr rfl (fun t ht hW => pq_i (by rw [sX5_asks, if_neg h1, if_neg h2, if_neg h3, if_neg h4, if_pos h5]) ht) nil_free dX5_asks_34
def sX5_isZero (a : Int32) (v : Int64) : Int32 := if (sX5_isWhole a) = 0 then if a = (2 : Int32) then if (v &&& (2147483647 : Int64)) = (0 : Int64) then (1 : Int32) else (0 : Int32) else if (v &&& (9223372036854775807 : Int64)) = (0 : Int64) then (1 : Int32) else (0 : Int32) else if v = (0 : Int64) then (1 : Int32) else (0 : Int32)
theorem nX5_isZero : yX5_isZero.cls ≠ "java/lang/invoke/MethodHandle" ∧ yX5_isZero.cls ≠ "java/lang/invoke/VarHandle" ∧ (parseMethodDescriptor yX5_isZero.desc).map (fun d => d.parameters.length) = some 2 := by decide +kernel
set_option maxHeartbeats 4000000 in
set_option maxRecDepth 100000 in
theorem m_X5_isZero (l : Launch) (a : Int32) (v : Int64) : PM l yX5_isZero cX5_isZero 3 (some .boolean) 1 [.int a, .long v] (fun _ => True) (.int (sX5_isZero a v)) := by
  refine Met.ofW (cc := cX5_isZero) (maxL := 3) (ret := (some .boolean)) (by decide) rfl ?_
  intro p e s m args below meth c s₁ B hml hv
  obtain ⟨rfl, -⟩ := hv
  have hx := B.exec
  have hb := B.bytes
  have hr := B.returns
  have hts : ∀ w ∈ AW, w.before _ s = true := fun w h => atoms_spec (ws := Cond.code yX5_isZero cX5_isZero 3 (some .boolean) :: AW) B.pre w (List.mem_cons_of_mem _ h)
  have hown : s.vm.findClass RX5 = some m.cls := findClass_of_methodNamed B.named
  have hlocks := B.notSynchronized
  have hl := lv_entry ([.int a, .long v]) (n := 3) (Nat.le_of_ble_eq_true rfl)
  rw [lg_entry_eq]
  generalize (lg_sl ([.int a, .long v]) ++ List.replicate (3 - (lg_sl ([.int a, .long v])).length) Slot.unset).toArray = ls at hl ⊢
  have hl : lv_has ls 3 [(0, .int a), (1, .long v)] := hl
  refine lv_iload_n hx hb dX5_isZero_0 rfl (lv_at hl 0 rfl) ?_
  refine p_S (rest := []) hx hb hml hown hts (m_X5_isWhole l a) q643 q644 q26 q645 nX5_isWhole ⟨Nat.le_of_ble_eq_true rfl, Nat.le_of_ble_eq_true rfl⟩ hl.1 rfl rfl (Nat.le_of_ble_eq_true rfl) dX5_isZero_1 ⟨Nat.zero_le _, Nat.zero_le _⟩ blind_c (fun _ _ _ => trivial) ?_
  refine c_if_eq (tgt := 21) hx hb dX5_isZero_4 (by decide) (fun h1 => ?_) (fun h1 => ?_)
  · skip
    refine lv_iload_n hx hb dX5_isZero_21 rfl (lv_at hl 0 rfl) ?_
    refine lv_iconst (v := 2) hx hb dX5_isZero_22 (by decide) ?_
    refine c_icmp_ne (tgt := 44) hx hb dX5_isZero_23 (by decide) (fun h2 => ?_) (fun h2 => ?_)
    · skip
      refine lv_lload_n hx hb dX5_isZero_44 rfl (lv_at hl 1 rfl) ?_
      refine lv_ldc2 hx hb hown (hts _ q653) dX5_isZero_45 ?_
      refine lv_land hx hb dX5_isZero_48 ?_
      refine lv_lconst (v := 0) hx hb dX5_isZero_49 (by decide) ?_
      refine c_lcmp_ne (tgt := 58) hx hb dX5_isZero_50 dX5_isZero_51 (by decide) (fun h3 => ?_) (fun h3 => ?_)
      · skip
        refine lv_iconst (v := 0) hx hb dX5_isZero_58 (by decide) ?_
        exact W.zret (v := (0 : Int32)) hx hb hr rfl (fun t ht hW => pq_i (by rw [sX5_isZero, if_pos h1, if_neg h2, if_neg h3]) ht) nil_free dX5_isZero_59
      · skip
        refine lv_iconst (v := 1) hx hb dX5_isZero_54 (by decide) ?_
        refine lv_goto (tgt := 59) hx hb dX5_isZero_55 (by decide) ?_
        exact W.zret (v := (1 : Int32)) hx hb hr rfl (fun t ht hW => pq_i (by rw [sX5_isZero, if_pos h1, if_neg h2, if_pos h3]) ht) nil_free dX5_isZero_59
    · skip
      refine lv_lload_n hx hb dX5_isZero_26 rfl (lv_at hl 1 rfl) ?_
      refine lv_ldc2 hx hb hown (hts _ q652) dX5_isZero_27 ?_
      refine lv_land hx hb dX5_isZero_30 ?_
      refine lv_lconst (v := 0) hx hb dX5_isZero_31 (by decide) ?_
      refine c_lcmp_ne (tgt := 40) hx hb dX5_isZero_32 dX5_isZero_33 (by decide) (fun h4 => ?_) (fun h4 => ?_)
      · skip
        refine lv_iconst (v := 0) hx hb dX5_isZero_40 (by decide) ?_
        refine lv_goto (tgt := 59) hx hb dX5_isZero_41 (by decide) ?_
        exact W.zret (v := (0 : Int32)) hx hb hr rfl (fun t ht hW => pq_i (by rw [sX5_isZero, if_pos h1, if_pos h2, if_neg h4]) ht) nil_free dX5_isZero_59
      · skip
        refine lv_iconst (v := 1) hx hb dX5_isZero_36 (by decide) ?_
        refine lv_goto (tgt := 59) hx hb dX5_isZero_37 (by decide) ?_
        exact W.zret (v := (1 : Int32)) hx hb hr rfl (fun t ht hW => pq_i (by rw [sX5_isZero, if_pos h1, if_pos h2, if_pos h4]) ht) nil_free dX5_isZero_59
  · skip
    refine lv_lload_n hx hb dX5_isZero_7 rfl (lv_at hl 1 rfl) ?_
    refine lv_lconst (v := 0) hx hb dX5_isZero_8 (by decide) ?_
    refine c_lcmp_ne (tgt := 17) hx hb dX5_isZero_9 dX5_isZero_10 (by decide) (fun h5 => ?_) (fun h5 => ?_)
    · skip
      refine lv_iconst (v := 0) hx hb dX5_isZero_17 (by decide) ?_
      refine lv_goto (tgt := 59) hx hb dX5_isZero_18 (by decide) ?_
      exact W.zret (v := (0 : Int32)) hx hb hr rfl (fun t ht hW => pq_i (by rw [sX5_isZero, if_neg h1, if_neg h5]) ht) nil_free dX5_isZero_59
    · skip
      refine lv_iconst (v := 1) hx hb dX5_isZero_13 (by decide) ?_
      refine lv_goto (tgt := 59) hx hb dX5_isZero_14 (by decide) ?_
      exact W.zret (v := (1 : Int32)) hx hb hr rfl (fun t ht hW => pq_i (by rw [sX5_isZero, if_neg h1, if_pos h5]) ht) nil_free dX5_isZero_59
def sX5_rank (a : Int32) (v : Int64) : Int64 := if (sX5_isWhole a) = 0 then if v < (0 : Int64) then if a = (2 : Int32) then ((-1 : Int64) - (v &&& (2147483647 : Int64))) else ((-1 : Int64) - (v &&& (9223372036854775807 : Int64))) else v else v
theorem nX5_rank : yX5_rank.cls ≠ "java/lang/invoke/MethodHandle" ∧ yX5_rank.cls ≠ "java/lang/invoke/VarHandle" ∧ (parseMethodDescriptor yX5_rank.desc).map (fun d => d.parameters.length) = some 2 := by decide +kernel
set_option maxHeartbeats 4000000 in
set_option maxRecDepth 100000 in
theorem m_X5_rank (l : Launch) (a : Int32) (v : Int64) : PM l yX5_rank cX5_rank 3 (some .long) 1 [.int a, .long v] (fun _ => True) (.long (sX5_rank a v)) := by
  refine Met.ofW (cc := cX5_rank) (maxL := 3) (ret := (some .long)) (by decide) rfl ?_
  intro p e s m args below meth c s₁ B hml hv
  obtain ⟨rfl, -⟩ := hv
  have hx := B.exec
  have hb := B.bytes
  have hr := B.returns
  have hts : ∀ w ∈ AW, w.before _ s = true := fun w h => atoms_spec (ws := Cond.code yX5_rank cX5_rank 3 (some .long) :: AW) B.pre w (List.mem_cons_of_mem _ h)
  have hown : s.vm.findClass RX5 = some m.cls := findClass_of_methodNamed B.named
  have hlocks := B.notSynchronized
  have hl := lv_entry ([.int a, .long v]) (n := 3) (Nat.le_of_ble_eq_true rfl)
  rw [lg_entry_eq]
  generalize (lg_sl ([.int a, .long v]) ++ List.replicate (3 - (lg_sl ([.int a, .long v])).length) Slot.unset).toArray = ls at hl ⊢
  have hl : lv_has ls 3 [(0, .int a), (1, .long v)] := hl
  refine lv_iload_n hx hb dX5_rank_0 rfl (lv_at hl 0 rfl) ?_
  refine p_S (rest := []) hx hb hml hown hts (m_X5_isWhole l a) q643 q644 q26 q645 nX5_isWhole ⟨Nat.le_of_ble_eq_true rfl, Nat.le_of_ble_eq_true rfl⟩ hl.1 rfl rfl (Nat.le_of_ble_eq_true rfl) dX5_rank_1 ⟨Nat.zero_le _, Nat.zero_le _⟩ blind_c (fun _ _ _ => trivial) ?_
  refine c_if_ne (tgt := 13) hx hb dX5_rank_4 (by decide) (fun h1 => ?_) (fun h1 => ?_)
  · skip
    refine lv_lload_n hx hb dX5_rank_13 rfl (lv_at hl 1 rfl) ?_
    exact W.lret hx hb hr (fun t ht hW => pq_l (by rw [sX5_rank, if_neg h1]) ht) nil_free dX5_rank_14
  · skip
    refine lv_lload_n hx hb dX5_rank_7 rfl (lv_at hl 1 rfl) ?_
    refine lv_lconst (v := 0) hx hb dX5_rank_8 (by decide) ?_
    refine c_lcmp_lt (tgt := 15) hx hb dX5_rank_9 dX5_rank_10 (by decide) (fun h2 => ?_) (fun h2 => ?_)
    · skip
      refine lv_iload_n hx hb dX5_rank_15 rfl (lv_at hl 0 rfl) ?_
      refine lv_iconst (v := 2) hx hb dX5_rank_16 (by decide) ?_
      refine c_icmp_ne (tgt := 32) hx hb dX5_rank_17 (by decide) (fun h3 => ?_) (fun h3 => ?_)
      · skip
        refine lv_ldc2 hx hb hown (hts _ q694) dX5_rank_32 ?_
        refine lv_lload_n hx hb dX5_rank_35 rfl (lv_at hl 1 rfl) ?_
        refine lv_ldc2 hx hb hown (hts _ q653) dX5_rank_36 ?_
        refine lv_land hx hb dX5_rank_39 ?_
        refine lv_lsub hx hb dX5_rank_40 ?_
        exact W.lret hx hb hr (fun t ht hW => pq_l (by rw [sX5_rank, if_pos h1, if_pos h2, if_neg h3]) ht) nil_free dX5_rank_41
      · skip
        refine lv_ldc2 hx hb hown (hts _ q694) dX5_rank_20 ?_
        refine lv_lload_n hx hb dX5_rank_23 rfl (lv_at hl 1 rfl) ?_
        refine lv_ldc2 hx hb hown (hts _ q652) dX5_rank_24 ?_
        refine lv_land hx hb dX5_rank_27 ?_
        refine lv_lsub hx hb dX5_rank_28 ?_
        refine lv_goto (tgt := 41) hx hb dX5_rank_29 (by decide) ?_
        exact W.lret hx hb hr (fun t ht hW => pq_l (by rw [sX5_rank, if_pos h1, if_pos h2, if_pos h3]) ht) nil_free dX5_rank_41
    · skip
      refine lv_lload_n hx hb dX5_rank_13 rfl (lv_at hl 1 rfl) ?_
      exact W.lret hx hb hr (fun t ht hW => pq_l (by rw [sX5_rank, if_pos h1, if_neg h2]) ht) nil_free dX5_rank_14
def sX5_greater (a : Int32) (v : Int64) (w : Int64) : Int64 := if (sX5_rank a v) < (sX5_rank a w) then w else v
theorem nX5_greater : yX5_greater.cls ≠ "java/lang/invoke/MethodHandle" ∧ yX5_greater.cls ≠ "java/lang/invoke/VarHandle" ∧ (parseMethodDescriptor yX5_greater.desc).map (fun d => d.parameters.length) = some 3 := by decide +kernel
set_option maxHeartbeats 4000000 in
set_option maxRecDepth 100000 in
theorem m_X5_greater (l : Launch) (a : Int32) (v : Int64) (w : Int64) : PM l yX5_greater cX5_greater 5 (some .long) 2 [.int a, .long v, .long w] (fun _ => True) (.long (sX5_greater a v w)) := by
  refine Met.ofW (cc := cX5_greater) (maxL := 5) (ret := (some .long)) (by decide) rfl ?_
  intro p e s m args below meth c s₁ B hml hv
  obtain ⟨rfl, -⟩ := hv
  have hx := B.exec
  have hb := B.bytes
  have hr := B.returns
  have hts : ∀ w ∈ AW, w.before _ s = true := fun w h => atoms_spec (ws := Cond.code yX5_greater cX5_greater 5 (some .long) :: AW) B.pre w (List.mem_cons_of_mem _ h)
  have hown : s.vm.findClass RX5 = some m.cls := findClass_of_methodNamed B.named
  have hlocks := B.notSynchronized
  have hl := lv_entry ([.int a, .long v, .long w]) (n := 5) (Nat.le_of_ble_eq_true rfl)
  rw [lg_entry_eq]
  generalize (lg_sl ([.int a, .long v, .long w]) ++ List.replicate (5 - (lg_sl ([.int a, .long v, .long w])).length) Slot.unset).toArray = ls at hl ⊢
  have hl : lv_has ls 5 [(0, .int a), (1, .long v), (3, .long w)] := hl
  refine lv_iload_n hx hb dX5_greater_0 rfl (lv_at hl 0 rfl) ?_
  refine lv_lload_n hx hb dX5_greater_1 rfl (lv_at hl 1 rfl) ?_
  refine p_S (rest := []) hx hb hml hown hts (m_X5_rank l a v) q706 q707 q26 q708 nX5_rank ⟨Nat.le_of_ble_eq_true rfl, Nat.le_of_ble_eq_true rfl⟩ hl.1 rfl rfl (Nat.le_of_ble_eq_true rfl) dX5_greater_2 ⟨Nat.zero_le _, Nat.zero_le _⟩ blind_c (fun _ _ _ => trivial) ?_
  refine lv_iload_n hx hb dX5_greater_5 rfl (lv_at hl 0 rfl) ?_
  refine lv_lload_n hx hb dX5_greater_6 rfl (lv_at hl 2 rfl) ?_
  refine p_S (rest := [.long (sX5_rank a v)]) hx hb hml hown hts (m_X5_rank l a w) q706 q707 q26 q708 nX5_rank ⟨Nat.le_of_ble_eq_true rfl, Nat.le_of_ble_eq_true rfl⟩ hl.1 rfl rfl (Nat.le_of_ble_eq_true rfl) dX5_greater_7 ⟨Nat.zero_le _, Nat.zero_le _⟩ blind_c (fun _ _ _ => trivial) ?_
  refine c_lcmp_lt (tgt := 18) hx hb dX5_greater_10 dX5_greater_11 (by decide) (fun h1 => ?_) (fun h1 => ?_)
  · skip
    refine lv_lload_n hx hb dX5_greater_18 rfl (lv_at hl 2 rfl) ?_
    exact W.lret hx hb hr (fun t ht hW => pq_l (by rw [sX5_greater, if_pos h1]) ht) nil_free dX5_greater_19
  · skip
    refine lv_lload_n hx hb dX5_greater_14 rfl (lv_at hl 1 rfl) ?_
    refine lv_goto (tgt := 19) hx hb dX5_greater_15 (by decide) ?_
    exact W.lret hx hb hr (fun t ht hW => pq_l (by rw [sX5_greater, if_neg h1]) ht) nil_free dX5_greater_19
def sX5_lesser (a : Int32) (v : Int64) (w : Int64) : Int64 := if (sX5_rank a w) < (sX5_rank a v) then w else v
theorem nX5_lesser : yX5_lesser.cls ≠ "java/lang/invoke/MethodHandle" ∧ yX5_lesser.cls ≠ "java/lang/invoke/VarHandle" ∧ (parseMethodDescriptor yX5_lesser.desc).map (fun d => d.parameters.length) = some 3 := by decide +kernel
set_option maxHeartbeats 4000000 in
set_option maxRecDepth 100000 in
theorem m_X5_lesser (l : Launch) (a : Int32) (v : Int64) (w : Int64) : PM l yX5_lesser cX5_lesser 5 (some .long) 2 [.int a, .long v, .long w] (fun _ => True) (.long (sX5_lesser a v w)) := by
  refine Met.ofW (cc := cX5_lesser) (maxL := 5) (ret := (some .long)) (by decide) rfl ?_
  intro p e s m args below meth c s₁ B hml hv
  obtain ⟨rfl, -⟩ := hv
  have hx := B.exec
  have hb := B.bytes
  have hr := B.returns
  have hts : ∀ w ∈ AW, w.before _ s = true := fun w h => atoms_spec (ws := Cond.code yX5_lesser cX5_lesser 5 (some .long) :: AW) B.pre w (List.mem_cons_of_mem _ h)
  have hown : s.vm.findClass RX5 = some m.cls := findClass_of_methodNamed B.named
  have hlocks := B.notSynchronized
  have hl := lv_entry ([.int a, .long v, .long w]) (n := 5) (Nat.le_of_ble_eq_true rfl)
  rw [lg_entry_eq]
  generalize (lg_sl ([.int a, .long v, .long w]) ++ List.replicate (5 - (lg_sl ([.int a, .long v, .long w])).length) Slot.unset).toArray = ls at hl ⊢
  have hl : lv_has ls 5 [(0, .int a), (1, .long v), (3, .long w)] := hl
  refine lv_iload_n hx hb dX5_lesser_0 rfl (lv_at hl 0 rfl) ?_
  refine lv_lload_n hx hb dX5_lesser_1 rfl (lv_at hl 1 rfl) ?_
  refine p_S (rest := []) hx hb hml hown hts (m_X5_rank l a v) q706 q707 q26 q708 nX5_rank ⟨Nat.le_of_ble_eq_true rfl, Nat.le_of_ble_eq_true rfl⟩ hl.1 rfl rfl (Nat.le_of_ble_eq_true rfl) dX5_lesser_2 ⟨Nat.zero_le _, Nat.zero_le _⟩ blind_c (fun _ _ _ => trivial) ?_
  refine lv_iload_n hx hb dX5_lesser_5 rfl (lv_at hl 0 rfl) ?_
  refine lv_lload_n hx hb dX5_lesser_6 rfl (lv_at hl 2 rfl) ?_
  refine p_S (rest := [.long (sX5_rank a v)]) hx hb hml hown hts (m_X5_rank l a w) q706 q707 q26 q708 nX5_rank ⟨Nat.le_of_ble_eq_true rfl, Nat.le_of_ble_eq_true rfl⟩ hl.1 rfl rfl (Nat.le_of_ble_eq_true rfl) dX5_lesser_7 ⟨Nat.zero_le _, Nat.zero_le _⟩ blind_c (fun _ _ _ => trivial) ?_
  refine c_lcmp_gt (tgt := 18) hx hb dX5_lesser_10 dX5_lesser_11 (by decide) (fun h1 => ?_) (fun h1 => ?_)
  · skip
    refine lv_lload_n hx hb dX5_lesser_18 rfl (lv_at hl 2 rfl) ?_
    exact W.lret hx hb hr (fun t ht hW => pq_l (by rw [sX5_lesser, if_pos h1]) ht) nil_free dX5_lesser_19
  · skip
    refine lv_lload_n hx hb dX5_lesser_14 rfl (lv_at hl 1 rfl) ?_
    refine lv_goto (tgt := 19) hx hb dX5_lesser_15 (by decide) ?_
    exact W.lret hx hb hr (fun t ht hW => pq_l (by rw [sX5_lesser, if_neg h1]) ht) nil_free dX5_lesser_19
def sX5_turned (a : Int32) (v : Int64) : Int64 := if (sX5_isWhole a) = 0 then if a = (2 : Int32) then (v.toInt32 ^^^ (-2147483648 : Int32)).toInt64 else (v ^^^ (-9223372036854775808 : Int64)) else (sX5_wrapped a (-v))
theorem nX5_turned : yX5_turned.cls ≠ "java/lang/invoke/MethodHandle" ∧ yX5_turned.cls ≠ "java/lang/invoke/VarHandle" ∧ (parseMethodDescriptor yX5_turned.desc).map (fun d => d.parameters.length) = some 2 := by decide +kernel
set_option maxHeartbeats 4000000 in
set_option maxRecDepth 100000 in
theorem m_X5_turned (l : Launch) (a : Int32) (v : Int64) : PM l yX5_turned cX5_turned 3 (some .long) 1 [.int a, .long v] (fun _ => True) (.long (sX5_turned a v)) := by
  refine Met.ofW (cc := cX5_turned) (maxL := 3) (ret := (some .long)) (by decide) rfl ?_
  intro p e s m args below meth c s₁ B hml hv
  obtain ⟨rfl, -⟩ := hv
  have hx := B.exec
  have hb := B.bytes
  have hr := B.returns
  have hts : ∀ w ∈ AW, w.before _ s = true := fun w h => atoms_spec (ws := Cond.code yX5_turned cX5_turned 3 (some .long) :: AW) B.pre w (List.mem_cons_of_mem _ h)
  have hown : s.vm.findClass RX5 = some m.cls := findClass_of_methodNamed B.named
  have hlocks := B.notSynchronized
  have hl := lv_entry ([.int a, .long v]) (n := 3) (Nat.le_of_ble_eq_true rfl)
  rw [lg_entry_eq]
  generalize (lg_sl ([.int a, .long v]) ++ List.replicate (3 - (lg_sl ([.int a, .long v])).length) Slot.unset).toArray = ls at hl ⊢
  have hl : lv_has ls 3 [(0, .int a), (1, .long v)] := hl
  refine lv_iload_n hx hb dX5_turned_0 rfl (lv_at hl 0 rfl) ?_
  refine p_S (rest := []) hx hb hml hown hts (m_X5_isWhole l a) q643 q644 q26 q645 nX5_isWhole ⟨Nat.le_of_ble_eq_true rfl, Nat.le_of_ble_eq_true rfl⟩ hl.1 rfl rfl (Nat.le_of_ble_eq_true rfl) dX5_turned_1 ⟨Nat.zero_le _, Nat.zero_le _⟩ blind_c (fun _ _ _ => trivial) ?_
  refine c_if_eq (tgt := 16) hx hb dX5_turned_4 (by decide) (fun h1 => ?_) (fun h1 => ?_)
  · skip
    refine lv_iload_n hx hb dX5_turned_16 rfl (lv_at hl 0 rfl) ?_
    refine lv_iconst (v := 2) hx hb dX5_turned_17 (by decide) ?_
    refine c_icmp_ne (tgt := 30) hx hb dX5_turned_18 (by decide) (fun h2 => ?_) (fun h2 => ?_)
    · skip
      refine lv_lload_n hx hb dX5_turned_30 rfl (lv_at hl 1 rfl) ?_
      refine lv_ldc2 hx hb hown (hts _ q699) dX5_turned_31 ?_
      refine lv_lxor hx hb dX5_turned_34 ?_
      exact W.lret hx hb hr (fun t ht hW => pq_l (by rw [sX5_turned, if_pos h1, if_neg h2]) ht) nil_free dX5_turned_35
    · skip
      refine lv_lload_n hx hb dX5_turned_21 rfl (lv_at hl 1 rfl) ?_
      refine lv_l2i hx hb dX5_turned_22 rfl ?_
      refine lv_ldc hx hb hown (hts _ q698) dX5_turned_23 ?_
      refine lv_ixor hx hb dX5_turned_25 ?_
      refine lv_i2l hx hb dX5_turned_26 rfl ?_
      refine lv_goto (tgt := 35) hx hb dX5_turned_27 (by decide) ?_
      exact W.lret hx hb hr (fun t ht hW => pq_l (by rw [sX5_turned, if_pos h1, if_pos h2]) ht) nil_free dX5_turned_35
  · skip
    refine lv_iload_n hx hb dX5_turned_7 rfl (lv_at hl 0 rfl) ?_
    refine lv_lload_n hx hb dX5_turned_8 rfl (lv_at hl 1 rfl) ?_
    refine lv_lneg hx hb dX5_turned_9 ?_
    refine p_S (rest := []) hx hb hml hown hts (m_X5_wrapped l a (-v)) q646 q647 q26 q648 nX5_wrapped ⟨Nat.le_of_ble_eq_true rfl, Nat.le_of_ble_eq_true rfl⟩ hl.1 rfl rfl (Nat.le_of_ble_eq_true rfl) dX5_turned_10 ⟨Nat.zero_le _, Nat.zero_le _⟩ blind_c (fun _ _ _ => trivial) ?_
    refine lv_goto (tgt := 35) hx hb dX5_turned_13 (by decide) ?_
    exact W.lret hx hb hr (fun t ht hW => pq_l (by rw [sX5_turned, if_neg h1]) ht) nil_free dX5_turned_35
def sX5_size (a : Int32) (v : Int64) : Int64 := if v < (0 : Int64) then (sX5_turned a v) else v
theorem nX5_size : yX5_size.cls ≠ "java/lang/invoke/MethodHandle" ∧ yX5_size.cls ≠ "java/lang/invoke/VarHandle" ∧ (parseMethodDescriptor yX5_size.desc).map (fun d => d.parameters.length) = some 2 := by decide +kernel
set_option maxHeartbeats 4000000 in
set_option maxRecDepth 100000 in
theorem m_X5_size (l : Launch) (a : Int32) (v : Int64) : PM l yX5_size cX5_size 3 (some .long) 2 [.int a, .long v] (fun _ => True) (.long (sX5_size a v)) := by
  refine Met.ofW (cc := cX5_size) (maxL := 3) (ret := (some .long)) (by decide) rfl ?_
  intro p e s m args below meth c s₁ B hml hv
  obtain ⟨rfl, -⟩ := hv
  have hx := B.exec
  have hb := B.bytes
  have hr := B.returns
  have hts : ∀ w ∈ AW, w.before _ s = true := fun w h => atoms_spec (ws := Cond.code yX5_size cX5_size 3 (some .long) :: AW) B.pre w (List.mem_cons_of_mem _ h)
  have hown : s.vm.findClass RX5 = some m.cls := findClass_of_methodNamed B.named
  have hlocks := B.notSynchronized
  have hl := lv_entry ([.int a, .long v]) (n := 3) (Nat.le_of_ble_eq_true rfl)
  rw [lg_entry_eq]
  generalize (lg_sl ([.int a, .long v]) ++ List.replicate (3 - (lg_sl ([.int a, .long v])).length) Slot.unset).toArray = ls at hl ⊢
  have hl : lv_has ls 3 [(0, .int a), (1, .long v)] := hl
  refine lv_lload_n hx hb dX5_size_0 rfl (lv_at hl 1 rfl) ?_
  refine lv_lconst (v := 0) hx hb dX5_size_1 (by decide) ?_
  refine c_lcmp_ge (tgt := 14) hx hb dX5_size_2 dX5_size_3 (by decide) (fun h1 => ?_) (fun h1 => ?_)
  · skip
    refine lv_lload_n hx hb dX5_size_14 rfl (lv_at hl 1 rfl) ?_
    exact W.lret hx hb hr (fun t ht hW => pq_l (by rw [sX5_size, if_neg h1]) ht) nil_free dX5_size_15
  · skip
    refine lv_iload_n hx hb dX5_size_6 rfl (lv_at hl 0 rfl) ?_
    refine lv_lload_n hx hb dX5_size_7 rfl (lv_at hl 1 rfl) ?_
    refine p_S (rest := []) hx hb hml hown hts (m_X5_turned l a v) q695 q696 q26 q697 nX5_turned ⟨Nat.le_of_ble_eq_true rfl, Nat.le_of_ble_eq_true rfl⟩ hl.1 rfl rfl (Nat.le_of_ble_eq_true rfl) dX5_size_8 ⟨Nat.zero_le _, Nat.zero_le _⟩ blind_c (fun _ _ _ => trivial) ?_
    refine lv_goto (tgt := 15) hx hb dX5_size_11 (by decide) ?_
    exact W.lret hx hb hr (fun t ht hW => pq_l (by rw [sX5_size, if_pos h1]) ht) nil_free dX5_size_15
def sX5_signOf_j1 (a : Int32) (v : Int64) : Int64 := (if (sX5_isWhole a) = 0 then (if a = (2 : Int32) then (1065353216 : Int64) else (4607182418800017408 : Int64)) else (1 : Int64))
def sX5_signOf (a : Int32) (v : Int64) : Int64 := if (sX5_isZero a v) = 0 then if v < (0 : Int64) then if (sX5_isWhole a) = 0 then (sX5_turned a (sX5_signOf_j1 a v)) else (-1 : Int64) else (sX5_signOf_j1 a v) else v
theorem nX5_signOf : yX5_signOf.cls ≠ "java/lang/invoke/MethodHandle" ∧ yX5_signOf.cls ≠ "java/lang/invoke/VarHandle" ∧ (parseMethodDescriptor yX5_signOf.desc).map (fun d => d.parameters.length) = some 2 := by decide +kernel
set_option maxHeartbeats 4000000 in
set_option maxRecDepth 100000 in
theorem m_X5_signOf (l : Launch) (a : Int32) (v : Int64) : PM l yX5_signOf cX5_signOf 5 (some .long) 2 [.int a, .long v] (fun _ => True) (.long (sX5_signOf a v)) := by
  refine Met.ofW (cc := cX5_signOf) (maxL := 5) (ret := (some .long)) (by decide) rfl ?_
  intro p e s m args below meth c s₁ B hml hv
  obtain ⟨rfl, -⟩ := hv
  have hx := B.exec
  have hb := B.bytes
  have hr := B.returns
  have hts : ∀ w ∈ AW, w.before _ s = true := fun w h => atoms_spec (ws := Cond.code yX5_signOf cX5_signOf 5 (some .long) :: AW) B.pre w (List.mem_cons_of_mem _ h)
  have hown : s.vm.findClass RX5 = some m.cls := findClass_of_methodNamed B.named
  have hlocks := B.notSynchronized
  have hl := lv_entry ([.int a, .long v]) (n := 5) (Nat.le_of_ble_eq_true rfl)
  rw [lg_entry_eq]
  generalize (lg_sl ([.int a, .long v]) ++ List.replicate (5 - (lg_sl ([.int a, .long v])).length) Slot.unset).toArray = ls at hl ⊢
  have hl : lv_has ls 5 [(0, .int a), (1, .long v)] := hl
  refine lv_iload_n hx hb dX5_signOf_0 rfl (lv_at hl 0 rfl) ?_
  refine lv_lload_n hx hb dX5_signOf_1 rfl (lv_at hl 1 rfl) ?_
  refine p_S (rest := []) hx hb hml hown hts (m_X5_isZero l a v) q689 q690 q26 q691 nX5_isZero ⟨Nat.le_of_ble_eq_true rfl, Nat.le_of_ble_eq_true rfl⟩ hl.1 rfl rfl (Nat.le_of_ble_eq_true rfl) dX5_signOf_2 ⟨Nat.zero_le _, Nat.zero_le _⟩ blind_c (fun _ _ _ => trivial) ?_
  refine c_if_eq (tgt := 10) hx hb dX5_signOf_5 (by decide) (fun h1 => ?_) (fun h1 => ?_)
  · skip
    refine lv_iload_n hx hb dX5_signOf_10 rfl (lv_at hl 0 rfl) ?_
    refine p_S (rest := []) hx hb hml hown hts (m_X5_isWhole l a) q643 q644 q26 q645 nX5_isWhole ⟨Nat.le_of_ble_eq_true rfl, Nat.le_of_ble_eq_true rfl⟩ hl.1 rfl rfl (Nat.le_of_ble_eq_true rfl) dX5_signOf_11 ⟨Nat.zero_le _, Nat.zero_le _⟩ blind_c (fun _ _ _ => trivial) ?_
    refine p_join (J := 35) (nL := 5) (st := [.long (sX5_signOf_j1 a v)]) (lv := [(0, .int a), (1, .long v)]) (fun ls hl => ?_) (fun K2 => ?_)
    rotate_left
    · refine c_if_eq (tgt := 21) hx hb dX5_signOf_14 (by decide) (fun h2 => ?_) (fun h2 => ?_)
      · skip
        refine lv_iload_n hx hb dX5_signOf_21 rfl (lv_at hl 0 rfl) ?_
        refine lv_iconst (v := 2) hx hb dX5_signOf_22 (by decide) ?_
        refine c_icmp_ne (tgt := 32) hx hb dX5_signOf_23 (by decide) (fun h3 => ?_) (fun h3 => ?_)
        · skip
          refine lv_ldc2 hx hb hown (hts _ q693) dX5_signOf_32 ?_
          simp only [sX5_signOf_j1, if_pos h2, if_neg h3] at K2
          exact K2 ls (lv_sub hl [0, 1] rfl)
        · skip
          refine lv_ldc2 hx hb hown (hts _ q692) dX5_signOf_26 ?_
          refine lv_goto (tgt := 35) hx hb dX5_signOf_29 (by decide) ?_
          simp only [sX5_signOf_j1, if_pos h2, if_pos h3] at K2
          exact K2 ls (lv_sub hl [0, 1] rfl)
      · skip
        refine lv_lconst (v := 1) hx hb dX5_signOf_17 (by decide) ?_
        refine lv_goto (tgt := 35) hx hb dX5_signOf_18 (by decide) ?_
        simp only [sX5_signOf_j1, if_neg h2] at K2
        exact K2 ls (lv_sub hl [0, 1] rfl)
    refine lv_lstore_n (lv' := [(3, .long (sX5_signOf_j1 a v)), (0, .int a), (1, .long v)]) hx hb dX5_signOf_35 rfl hl (by decide) rfl (fun ls hl => ?_)
    refine lv_lload_n hx hb dX5_signOf_36 rfl (lv_at hl 2 rfl) ?_
    refine lv_lconst (v := 0) hx hb dX5_signOf_37 (by decide) ?_
    refine c_lcmp_ge (tgt := 63) hx hb dX5_signOf_38 dX5_signOf_39 (by decide) (fun h4 => ?_) (fun h4 => ?_)
    · skip
      refine lv_lload_n hx hb dX5_signOf_63 rfl (lv_at hl 0 rfl) ?_
      exact W.lret hx hb hr (fun t ht hW => pq_l (by rw [sX5_signOf, if_pos h1, if_neg h4]) ht) nil_free dX5_signOf_64
    · skip
      refine lv_iload_n hx hb dX5_signOf_42 rfl (lv_at hl 1 rfl) ?_
      refine p_S (rest := []) hx hb hml hown hts (m_X5_isWhole l a) q643 q644 q26 q645 nX5_isWhole ⟨Nat.le_of_ble_eq_true rfl, Nat.le_of_ble_eq_true rfl⟩ hl.1 rfl rfl (Nat.le_of_ble_eq_true rfl) dX5_signOf_43 ⟨Nat.zero_le _, Nat.zero_le _⟩ blind_c (fun _ _ _ => trivial) ?_
      refine c_if_eq (tgt := 55) hx hb dX5_signOf_46 (by decide) (fun h5 => ?_) (fun h5 => ?_)
      · skip
        refine lv_iload_n hx hb dX5_signOf_55 rfl (lv_at hl 1 rfl) ?_
        refine lv_lload_n hx hb dX5_signOf_56 rfl (lv_at hl 0 rfl) ?_
        refine p_S (rest := []) hx hb hml hown hts (m_X5_turned l a (sX5_signOf_j1 a v)) q695 q696 q26 q697 nX5_turned ⟨Nat.le_of_ble_eq_true rfl, Nat.le_of_ble_eq_true rfl⟩ hl.1 rfl rfl (Nat.le_of_ble_eq_true rfl) dX5_signOf_57 ⟨Nat.zero_le _, Nat.zero_le _⟩ blind_c (fun _ _ _ => trivial) ?_
        refine lv_goto (tgt := 64) hx hb dX5_signOf_60 (by decide) ?_
        exact W.lret hx hb hr (fun t ht hW => pq_l (by rw [sX5_signOf, if_pos h1, if_pos h4, if_pos h5]) ht) nil_free dX5_signOf_64
      · skip
        refine lv_ldc2 hx hb hown (hts _ q694) dX5_signOf_49 ?_
        refine lv_goto (tgt := 64) hx hb dX5_signOf_52 (by decide) ?_
        exact W.lret hx hb hr (fun t ht hW => pq_l (by rw [sX5_signOf, if_pos h1, if_pos h4, if_neg h5]) ht) nil_free dX5_signOf_64
  · skip
    refine lv_lload_n hx hb dX5_signOf_8 rfl (lv_at hl 1 rfl) ?_
    exact W.lret hx hb hr (fun t ht hW => pq_l (by rw [sX5_signOf, if_neg h1]) ht) nil_free dX5_signOf_9
def sX5_areApart (a : Int32) (v : Int64) (w : Int64) : Int32 := if (sX5_isWhole a) = 0 then if (sX5_isInfinite a v) = 0 then (0 : Int32) else if (sX5_isInfinite a w) = 0 then (0 : Int32) else if (sX5_isNegative v) = (sX5_isNegative w) then (0 : Int32) else (1 : Int32) else (0 : Int32)
theorem nX5_areApart : yX5_areApart.cls ≠ "java/lang/invoke/MethodHandle" ∧ yX5_areApart.cls ≠ "java/lang/invoke/VarHandle" ∧ (parseMethodDescriptor yX5_areApart.desc).map (fun d => d.parameters.length) = some 3 := by decide +kernel
set_option maxHeartbeats 4000000 in
set_option maxRecDepth 100000 in
theorem m_X5_areApart (l : Launch) (a : Int32) (v : Int64) (w : Int64) : PM l yX5_areApart cX5_areApart 5 (some .boolean) 1 [.int a, .long v, .long w] (fun _ => True) (.int (sX5_areApart a v w)) := by
  refine Met.ofW (cc := cX5_areApart) (maxL := 5) (ret := (some .boolean)) (by decide) rfl ?_
  intro p e s m args below meth c s₁ B hml hv
  obtain ⟨rfl, -⟩ := hv
  have hx := B.exec
  have hb := B.bytes
  have hr := B.returns
  have hts : ∀ w ∈ AW, w.before _ s = true := fun w h => atoms_spec (ws := Cond.code yX5_areApart cX5_areApart 5 (some .boolean) :: AW) B.pre w (List.mem_cons_of_mem _ h)
  have hown : s.vm.findClass RX5 = some m.cls := findClass_of_methodNamed B.named
  have hlocks := B.notSynchronized
  have hl := lv_entry ([.int a, .long v, .long w]) (n := 5) (Nat.le_of_ble_eq_true rfl)
  rw [lg_entry_eq]
  generalize (lg_sl ([.int a, .long v, .long w]) ++ List.replicate (5 - (lg_sl ([.int a, .long v, .long w])).length) Slot.unset).toArray = ls at hl ⊢
  have hl : lv_has ls 5 [(0, .int a), (1, .long v), (3, .long w)] := hl
  refine lv_iload_n hx hb dX5_areApart_0 rfl (lv_at hl 0 rfl) ?_
  refine p_S (rest := []) hx hb hml hown hts (m_X5_isWhole l a) q643 q644 q26 q645 nX5_isWhole ⟨Nat.le_of_ble_eq_true rfl, Nat.le_of_ble_eq_true rfl⟩ hl.1 rfl rfl (Nat.le_of_ble_eq_true rfl) dX5_areApart_1 ⟨Nat.zero_le _, Nat.zero_le _⟩ blind_c (fun _ _ _ => trivial) ?_
  refine c_if_ne (tgt := 38) hx hb dX5_areApart_4 (by decide) (fun h1 => ?_) (fun h1 => ?_)
  · skip
    refine lv_iconst (v := 0) hx hb dX5_areApart_38 (by decide) ?_
    exact W.zret (v := (0 : Int32)) hx hb hr rfl (fun t ht hW => pq_i (by rw [sX5_areApart, if_neg h1]) ht) nil_free dX5_areApart_39
  · skip
    refine lv_iload_n hx hb dX5_areApart_7 rfl (lv_at hl 0 rfl) ?_
    refine lv_lload_n hx hb dX5_areApart_8 rfl (lv_at hl 1 rfl) ?_
    refine p_S (rest := []) hx hb hml hown hts (m_X5_isInfinite l a v) q649 q650 q26 q651 nX5_isInfinite ⟨Nat.le_of_ble_eq_true rfl, Nat.le_of_ble_eq_true rfl⟩ hl.1 rfl rfl (Nat.le_of_ble_eq_true rfl) dX5_areApart_9 ⟨Nat.zero_le _, Nat.zero_le _⟩ blind_c (fun _ _ _ => trivial) ?_
    refine c_if_eq (tgt := 38) hx hb dX5_areApart_12 (by decide) (fun h2 => ?_) (fun h2 => ?_)
    · skip
      refine lv_iconst (v := 0) hx hb dX5_areApart_38 (by decide) ?_
      exact W.zret (v := (0 : Int32)) hx hb hr rfl (fun t ht hW => pq_i (by rw [sX5_areApart, if_pos h1, if_pos h2]) ht) nil_free dX5_areApart_39
    · skip
      refine lv_iload_n hx hb dX5_areApart_15 rfl (lv_at hl 0 rfl) ?_
      refine lv_lload_n hx hb dX5_areApart_16 rfl (lv_at hl 2 rfl) ?_
      refine p_S (rest := []) hx hb hml hown hts (m_X5_isInfinite l a w) q649 q650 q26 q651 nX5_isInfinite ⟨Nat.le_of_ble_eq_true rfl, Nat.le_of_ble_eq_true rfl⟩ hl.1 rfl rfl (Nat.le_of_ble_eq_true rfl) dX5_areApart_17 ⟨Nat.zero_le _, Nat.zero_le _⟩ blind_c (fun _ _ _ => trivial) ?_
      refine c_if_eq (tgt := 38) hx hb dX5_areApart_20 (by decide) (fun h3 => ?_) (fun h3 => ?_)
      · skip
        refine lv_iconst (v := 0) hx hb dX5_areApart_38 (by decide) ?_
        exact W.zret (v := (0 : Int32)) hx hb hr rfl (fun t ht hW => pq_i (by rw [sX5_areApart, if_pos h1, if_neg h2, if_pos h3]) ht) nil_free dX5_areApart_39
      · skip
        refine lv_lload_n hx hb dX5_areApart_23 rfl (lv_at hl 1 rfl) ?_
        refine p_S (rest := []) hx hb hml hown hts (m_X5_isNegative l v) q738 q739 q26 q740 nX5_isNegative ⟨Nat.le_of_ble_eq_true rfl, Nat.le_of_ble_eq_true rfl⟩ hl.1 rfl rfl (Nat.le_of_ble_eq_true rfl) dX5_areApart_24 ⟨Nat.zero_le _, Nat.zero_le _⟩ blind_c (fun _ _ _ => trivial) ?_
        refine lv_lload_n hx hb dX5_areApart_27 rfl (lv_at hl 2 rfl) ?_
        refine p_S (rest := [.int (sX5_isNegative v)]) hx hb hml hown hts (m_X5_isNegative l w) q738 q739 q26 q740 nX5_isNegative ⟨Nat.le_of_ble_eq_true rfl, Nat.le_of_ble_eq_true rfl⟩ hl.1 rfl rfl (Nat.le_of_ble_eq_true rfl) dX5_areApart_28 ⟨Nat.zero_le _, Nat.zero_le _⟩ blind_c (fun _ _ _ => trivial) ?_
        refine c_icmp_eq (tgt := 38) hx hb dX5_areApart_31 (by decide) (fun h4 => ?_) (fun h4 => ?_)
        · skip
          refine lv_iconst (v := 0) hx hb dX5_areApart_38 (by decide) ?_
          exact W.zret (v := (0 : Int32)) hx hb hr rfl (fun t ht hW => pq_i (by rw [sX5_areApart, if_pos h1, if_neg h2, if_neg h3, if_pos h4]) ht) nil_free dX5_areApart_39
        · skip
          refine lv_iconst (v := 1) hx hb dX5_areApart_34 (by decide) ?_
          refine lv_goto (tgt := 39) hx hb dX5_areApart_35 (by decide) ?_
          exact W.zret (v := (1 : Int32)) hx hb hr rfl (fun t ht hW => pq_i (by rw [sX5_areApart, if_pos h1, if_neg h2, if_neg h3, if_neg h4]) ht) nil_free dX5_areApart_39
def sJxe99ae_isNaN_b9ae7 (x : UInt64) : Int32 := if (Op.cmpValue (FP.dcmp x x) CmpOp.l) = 0 then (0 : Int32) else (1 : Int32)
theorem nJxe99ae_isNaN_b9ae7 : yJxe99ae_isNaN_b9ae7.cls ≠ "java/lang/invoke/MethodHandle" ∧ yJxe99ae_isNaN_b9ae7.cls ≠ "java/lang/invoke/VarHandle" ∧ (parseMethodDescriptor yJxe99ae_isNaN_b9ae7.desc).map (fun d => d.parameters.length) = some 1 := by decide +kernel
set_option maxHeartbeats 4000000 in
set_option maxRecDepth 100000 in
theorem m_Jxe99ae_isNaN_b9ae7 (l : Launch) (x : UInt64) : PM l yJxe99ae_isNaN_b9ae7 cJxe99ae_isNaN_b9ae7 2 (some .boolean) 0 [.double x] (fun _ => True) (.int (sJxe99ae_isNaN_b9ae7 x)) := by
  refine Met.ofW (cc := cJxe99ae_isNaN_b9ae7) (maxL := 2) (ret := (some .boolean)) (by decide) rfl ?_
  intro p e s m args below meth c s₁ B hml hv
  obtain ⟨rfl, -⟩ := hv
  have hx := B.exec
  have hb := B.bytes
  have hr := B.returns
  have hts : ∀ w ∈ AW, w.before _ s = true := fun w h => atoms_spec (ws := Cond.code yJxe99ae_isNaN_b9ae7 cJxe99ae_isNaN_b9ae7 2 (some .boolean) :: AW) B.pre w (List.mem_cons_of_mem _ h)
  have hown : s.vm.findClass RJxe99ae = some m.cls := findClass_of_methodNamed B.named
  have hlocks := B.notSynchronized
  have hl := lv_entry ([.double x]) (n := 2) (Nat.le_of_ble_eq_true rfl)
  rw [lg_entry_eq]
  generalize (lg_sl ([.double x]) ++ List.replicate (2 - (lg_sl ([.double x])).length) Slot.unset).toArray = ls at hl ⊢
  have hl : lv_has ls 2 [(0, .double x)] := hl
  refine lv_dload_n hx hb dJxe99ae_isNaN_b9ae7_0 rfl (lv_at hl 0 rfl) ?_
  refine lv_dload_n hx hb dJxe99ae_isNaN_b9ae7_1 rfl (lv_at hl 0 rfl) ?_
  refine lv_dcmp hx hb dJxe99ae_isNaN_b9ae7_2 ?_
  refine c_if_eq (tgt := 10) hx hb dJxe99ae_isNaN_b9ae7_3 (by decide) (fun h1 => ?_) (fun h1 => ?_)
  · skip
    refine lv_iconst (v := 0) hx hb dJxe99ae_isNaN_b9ae7_10 (by decide) ?_
    exact W.zret (v := (0 : Int32)) hx hb hr rfl (fun t ht hW => pq_i (by rw [sJxe99ae_isNaN_b9ae7, if_pos h1]) ht) nil_free dJxe99ae_isNaN_b9ae7_11
  · skip
    refine lv_iconst (v := 1) hx hb dJxe99ae_isNaN_b9ae7_6 (by decide) ?_
    refine lv_goto (tgt := 11) hx hb dJxe99ae_isNaN_b9ae7_7 (by decide) ?_
    exact W.zret (v := (1 : Int32)) hx hb hr rfl (fun t ht hW => pq_i (by rw [sJxe99ae_isNaN_b9ae7, if_neg h1]) ht) nil_free dJxe99ae_isNaN_b9ae7_11
def sJxf58ca_isNaN_12338 (x : UInt32) : Int32 := if (Op.cmpValue (FP.fcmp x x) CmpOp.l) = 0 then (0 : Int32) else (1 : Int32)
theorem nJxf58ca_isNaN_12338 : yJxf58ca_isNaN_12338.cls ≠ "java/lang/invoke/MethodHandle" ∧ yJxf58ca_isNaN_12338.cls ≠ "java/lang/invoke/VarHandle" ∧ (parseMethodDescriptor yJxf58ca_isNaN_12338.desc).map (fun d => d.parameters.length) = some 1 := by decide +kernel
set_option maxHeartbeats 4000000 in
set_option maxRecDepth 100000 in
theorem m_Jxf58ca_isNaN_12338 (l : Launch) (x : UInt32) : PM l yJxf58ca_isNaN_12338 cJxf58ca_isNaN_12338 1 (some .boolean) 0 [.float x] (fun _ => True) (.int (sJxf58ca_isNaN_12338 x)) := by
  refine met_ofWF (cc := cJxf58ca_isNaN_12338) (maxL := 1) (ret := (some .boolean)) pf_f1 rfl ?_
  intro p e s m args below meth c s₁ B hml hv
  obtain ⟨rfl, -⟩ := hv
  have hx := B.exec
  have hb := B.bytes
  have hr := B.returns
  have hts : ∀ w ∈ AW, w.before _ s = true := fun w h => atoms_spec (ws := Cond.code yJxf58ca_isNaN_12338 cJxf58ca_isNaN_12338 1 (some .boolean) :: AW) B.pre w (List.mem_cons_of_mem _ h)
  have hown : s.vm.findClass RJxf58ca = some m.cls := findClass_of_methodNamed B.named
  have hlocks := B.notSynchronized
  have hl := lv_entry ([.float x]) (n := 1) (Nat.le_of_ble_eq_true rfl)
  rw [lg_entry_eq]
  generalize (lg_sl ([.float x]) ++ List.replicate (1 - (lg_sl ([.float x])).length) Slot.unset).toArray = ls at hl ⊢
  have hl : lv_has ls 1 [(0, .float x)] := hl
  refine lv_fload_n hx hb dJxf58ca_isNaN_12338_0 rfl (lv_at hl 0 rfl) ?_
  refine lv_fload_n hx hb dJxf58ca_isNaN_12338_1 rfl (lv_at hl 0 rfl) ?_
  refine lv_fcmp hx hb dJxf58ca_isNaN_12338_2 ?_
  refine c_if_eq (tgt := 10) hx hb dJxf58ca_isNaN_12338_3 (by decide) (fun h1 => ?_) (fun h1 => ?_)
  · skip
    refine lv_iconst (v := 0) hx hb dJxf58ca_isNaN_12338_10 (by decide) ?_
    exact W.zret (v := (0 : Int32)) hx hb hr rfl (fun t ht hW => pq_i (by rw [sJxf58ca_isNaN_12338, if_pos h1]) ht) nil_free dJxf58ca_isNaN_12338_11
  · skip
    refine lv_iconst (v := 1) hx hb dJxf58ca_isNaN_12338_6 (by decide) ?_
    refine lv_goto (tgt := 11) hx hb dJxf58ca_isNaN_12338_7 (by decide) ?_
    exact W.zret (v := (1 : Int32)) hx hb hr rfl (fun t ht hW => pq_i (by rw [sJxf58ca_isNaN_12338, if_neg h1]) ht) nil_free dJxf58ca_isNaN_12338_11
def sJxe99ae_doubleToLongBits_ccdee (x : UInt64) : Int64 := if (sJxe99ae_isNaN_b9ae7 x) = 0 then x.toInt64 else (9221120237041090560 : Int64)
theorem nJxe99ae_doubleToLongBits_ccdee : yJxe99ae_doubleToLongBits_ccdee.cls ≠ "java/lang/invoke/MethodHandle" ∧ yJxe99ae_doubleToLongBits_ccdee.cls ≠ "java/lang/invoke/VarHandle" ∧ (parseMethodDescriptor yJxe99ae_doubleToLongBits_ccdee.desc).map (fun d => d.parameters.length) = some 1 := by decide +kernel
set_option maxHeartbeats 4000000 in
set_option maxRecDepth 100000 in
theorem m_Jxe99ae_doubleToLongBits_ccdee (l : Launch) (x : UInt64) : PM l yJxe99ae_doubleToLongBits_ccdee cJxe99ae_doubleToLongBits_ccdee 2 (some .long) 1 [.double x] (fun _ => True) (.long (sJxe99ae_doubleToLongBits_ccdee x)) := by
  refine Met.ofW (cc := cJxe99ae_doubleToLongBits_ccdee) (maxL := 2) (ret := (some .long)) (by decide) rfl ?_
  intro p e s m args below meth c s₁ B hml hv
  obtain ⟨rfl, -⟩ := hv
  have hx := B.exec
  have hb := B.bytes
  have hr := B.returns
  have hts : ∀ w ∈ AW, w.before _ s = true := fun w h => atoms_spec (ws := Cond.code yJxe99ae_doubleToLongBits_ccdee cJxe99ae_doubleToLongBits_ccdee 2 (some .long) :: AW) B.pre w (List.mem_cons_of_mem _ h)
  have hown : s.vm.findClass RJxe99ae = some m.cls := findClass_of_methodNamed B.named
  have hlocks := B.notSynchronized
  have hl := lv_entry ([.double x]) (n := 2) (Nat.le_of_ble_eq_true rfl)
  rw [lg_entry_eq]
  generalize (lg_sl ([.double x]) ++ List.replicate (2 - (lg_sl ([.double x])).length) Slot.unset).toArray = ls at hl ⊢
  have hl : lv_has ls 2 [(0, .double x)] := hl
  refine lv_dload_n hx hb dJxe99ae_doubleToLongBits_ccdee_0 rfl (lv_at hl 0 rfl) ?_
  refine p_S (rest := []) hx hb hml hown hts (m_Jxe99ae_isNaN_b9ae7 l x) q679 q680 q32 q681 nJxe99ae_isNaN_b9ae7 ⟨Nat.le_of_ble_eq_true rfl, Nat.le_of_ble_eq_true rfl⟩ hl.1 rfl rfl (Nat.le_of_ble_eq_true rfl) dJxe99ae_doubleToLongBits_ccdee_1 ⟨Nat.zero_le _, Nat.zero_le _⟩ blind_c (fun _ _ _ => trivial) ?_
  refine c_if_ne (tgt := 12) hx hb dJxe99ae_doubleToLongBits_ccdee_4 (by decide) (fun h1 => ?_) (fun h1 => ?_)
  · skip
    refine lv_ldc2 hx hb hown (hts _ q685) dJxe99ae_doubleToLongBits_ccdee_12 ?_
    exact W.lret hx hb hr (fun t ht hW => pq_l (by rw [sJxe99ae_doubleToLongBits_ccdee, if_neg h1]) ht) nil_free dJxe99ae_doubleToLongBits_ccdee_15
  · skip
    refine lv_dload_n hx hb dJxe99ae_doubleToLongBits_ccdee_7 rfl (lv_at hl 0 rfl) ?_
    refine vn_d2l hx hb (hml.trans hl.1.symm) hown (hts _ q682) (hts _ q684) (hts _ q683) (hts _ q32) (Nat.le_of_ble_eq_true rfl) (Nat.le_of_ble_eq_true rfl) dJxe99ae_doubleToLongBits_ccdee_8 ?_
    exact W.lret hx hb hr (fun t ht hW => pq_l (by rw [sJxe99ae_doubleToLongBits_ccdee, if_pos h1]) ht) nil_free dJxe99ae_doubleToLongBits_ccdee_11
def sJxf58ca_floatToIntBits_5c35a (x : UInt32) : Int32 := if (sJxf58ca_isNaN_12338 x) = 0 then x.toInt32 else (2143289344 : Int32)
theorem nJxf58ca_floatToIntBits_5c35a : yJxf58ca_floatToIntBits_5c35a.cls ≠ "java/lang/invoke/MethodHandle" ∧ yJxf58ca_floatToIntBits_5c35a.cls ≠ "java/lang/invoke/VarHandle" ∧ (parseMethodDescriptor yJxf58ca_floatToIntBits_5c35a.desc).map (fun d => d.parameters.length) = some 1 := by decide +kernel
set_option maxHeartbeats 4000000 in
set_option maxRecDepth 100000 in
theorem m_Jxf58ca_floatToIntBits_5c35a (l : Launch) (x : UInt32) : PM l yJxf58ca_floatToIntBits_5c35a cJxf58ca_floatToIntBits_5c35a 1 (some .int) 1 [.float x] (fun _ => True) (.int (sJxf58ca_floatToIntBits_5c35a x)) := by
  refine met_ofWF (cc := cJxf58ca_floatToIntBits_5c35a) (maxL := 1) (ret := (some .int)) pf_f2 rfl ?_
  intro p e s m args below meth c s₁ B hml hv
  obtain ⟨rfl, -⟩ := hv
  have hx := B.exec
  have hb := B.bytes
  have hr := B.returns
  have hts : ∀ w ∈ AW, w.before _ s = true := fun w h => atoms_spec (ws := Cond.code yJxf58ca_floatToIntBits_5c35a cJxf58ca_floatToIntBits_5c35a 1 (some .int) :: AW) B.pre w (List.mem_cons_of_mem _ h)
  have hown : s.vm.findClass RJxf58ca = some m.cls := findClass_of_methodNamed B.named
  have hlocks := B.notSynchronized
  have hl := lv_entry ([.float x]) (n := 1) (Nat.le_of_ble_eq_true rfl)
  rw [lg_entry_eq]
  generalize (lg_sl ([.float x]) ++ List.replicate (1 - (lg_sl ([.float x])).length) Slot.unset).toArray = ls at hl ⊢
  have hl : lv_has ls 1 [(0, .float x)] := hl
  refine lv_fload_n hx hb dJxf58ca_floatToIntBits_5c35a_0 rfl (lv_at hl 0 rfl) ?_
  refine p_S (rest := []) hx hb hml hown hts (m_Jxf58ca_isNaN_12338 l x) q669 q670 q31 q671 nJxf58ca_isNaN_12338 ⟨Nat.le_of_ble_eq_true rfl, Nat.le_of_ble_eq_true rfl⟩ hl.1 rfl rfl (Nat.le_of_ble_eq_true rfl) dJxf58ca_floatToIntBits_5c35a_1 ⟨Nat.zero_le _, Nat.zero_le _⟩ blind_c (fun _ _ _ => trivial) ?_
  refine c_if_ne (tgt := 12) hx hb dJxf58ca_floatToIntBits_5c35a_4 (by decide) (fun h1 => ?_) (fun h1 => ?_)
  · skip
    refine lv_ldc hx hb hown (hts _ q675) dJxf58ca_floatToIntBits_5c35a_12 ?_
    exact W.iret hx hb hr (fun t ht hW => pq_i (by rw [sJxf58ca_floatToIntBits_5c35a, if_neg h1]) ht) nil_free dJxf58ca_floatToIntBits_5c35a_14
  · skip
    refine lv_fload_n hx hb dJxf58ca_floatToIntBits_5c35a_7 rfl (lv_at hl 0 rfl) ?_
    refine vn_f2i hx hb (hml.trans hl.1.symm) hown (hts _ q672) (hts _ q674) (hts _ q673) (hts _ q31) (Nat.le_of_ble_eq_true rfl) (Nat.le_of_ble_eq_true rfl) dJxf58ca_floatToIntBits_5c35a_8 ?_
    exact W.iret hx hb hr (fun t ht hW => pq_i (by rw [sJxf58ca_floatToIntBits_5c35a, if_pos h1]) ht) nil_free dJxf58ca_floatToIntBits_5c35a_11
