def sX1_shiftedDown (v : Int64) (k : Int32) : Int64 := if k < (60 : Int32) then if ((v >>> (k.toInt64 &&& 63)) <<< (k.toInt64 &&& 63)) = v then (v >>> (k.toInt64 &&& 63)) else ((v >>> (k.toInt64 &&& 63)) ||| (1 : Int64)) else if v = (0 : Int64) then (0 : Int64) else (1 : Int64)
theorem nX1_shiftedDown : yX1_shiftedDown.cls ≠ "java/lang/invoke/MethodHandle" ∧ yX1_shiftedDown.cls ≠ "java/lang/invoke/VarHandle" ∧ (parseMethodDescriptor yX1_shiftedDown.desc).map (fun d => d.parameters.length) = some 2 := by decide +kernel
set_option maxHeartbeats 4000000 in
set_option maxRecDepth 100000 in
theorem m_X1_shiftedDown (l : Launch) (v : Int64) (k : Int32) : PM l yX1_shiftedDown cX1_shiftedDown 5 (some .long) 0 [.long v, .int k] (fun _ => True) (.long (sX1_shiftedDown v k)) := by
  refine Met.ofW (cc := cX1_shiftedDown) (maxL := 5) (ret := (some .long)) (by decide) rfl ?_
  intro p e s m args below meth c s₁ B hml hv
  obtain ⟨rfl, -⟩ := hv
  have hx := B.exec
  have hb := B.bytes
  have hr := B.returns
  have hts : ∀ w ∈ AW, w.before _ s = true := fun w h => atoms_spec (ws := Cond.code yX1_shiftedDown cX1_shiftedDown 5 (some .long) :: AW) B.pre w (List.mem_cons_of_mem _ h)
  have hown : s.vm.findClass RX1 = some m.cls := findClass_of_methodNamed B.named
  have hlocks := B.notSynchronized
  have hl := lv_entry ([.long v, .int k]) (n := 5) (Nat.le_of_ble_eq_true rfl)
  rw [lg_entry_eq]
  generalize (lg_sl ([.long v, .int k]) ++ List.replicate (5 - (lg_sl ([.long v, .int k])).length) Slot.unset).toArray = ls at hl ⊢
  have hl : lv_has ls 5 [(0, .long v), (2, .int k)] := hl
  refine lv_iload_n hx hb dX1_shiftedDown_0 rfl (lv_at hl 1 rfl) ?_
  refine lv_bipush (v := 60) hx hb dX1_shiftedDown_1 (by decide) ?_
  refine c_icmp_lt (tgt := 18) hx hb dX1_shiftedDown_3 (by decide) (fun h1 => ?_) (fun h1 => ?_)
  · skip
    refine lv_lload_n hx hb dX1_shiftedDown_18 rfl (lv_at hl 0 rfl) ?_
    refine lv_iload_n hx hb dX1_shiftedDown_19 rfl (lv_at hl 1 rfl) ?_
    refine lv_lshr hx hb dX1_shiftedDown_20 rfl ?_
    refine lv_lstore_n (lv' := [(3, .long (v >>> (k.toInt64 &&& 63))), (0, .long v), (2, .int k)]) hx hb dX1_shiftedDown_21 rfl hl (by decide) rfl (fun ls hl => ?_)
    refine lv_lload_n hx hb dX1_shiftedDown_22 rfl (lv_at hl 0 rfl) ?_
    refine lv_iload_n hx hb dX1_shiftedDown_23 rfl (lv_at hl 2 rfl) ?_
    refine lv_lshl hx hb dX1_shiftedDown_24 rfl ?_
    refine lv_lload_n hx hb dX1_shiftedDown_25 rfl (lv_at hl 1 rfl) ?_
    refine c_lcmp_ne (tgt := 34) hx hb dX1_shiftedDown_26 dX1_shiftedDown_27 (by decide) (fun h2 => ?_) (fun h2 => ?_)
    · skip
      refine lv_lload_n hx hb dX1_shiftedDown_34 rfl (lv_at hl 0 rfl) ?_
      refine lv_lconst (v := 1) hx hb dX1_shiftedDown_35 (by decide) ?_
      refine lv_lor hx hb dX1_shiftedDown_36 ?_
      exact W.lret hx hb hr (fun t ht hW => pq_l (by rw [sX1_shiftedDown, if_pos h1, if_neg h2]) ht) nil_free dX1_shiftedDown_37
    · skip
      refine lv_lload_n hx hb dX1_shiftedDown_30 rfl (lv_at hl 0 rfl) ?_
      refine lv_goto (tgt := 37) hx hb dX1_shiftedDown_31 (by decide) ?_
      exact W.lret hx hb hr (fun t ht hW => pq_l (by rw [sX1_shiftedDown, if_pos h1, if_pos h2]) ht) nil_free dX1_shiftedDown_37
  · skip
    refine lv_lload_n hx hb dX1_shiftedDown_6 rfl (lv_at hl 0 rfl) ?_
    refine lv_lconst (v := 0) hx hb dX1_shiftedDown_7 (by decide) ?_
    refine c_lcmp_ne (tgt := 16) hx hb dX1_shiftedDown_8 dX1_shiftedDown_9 (by decide) (fun h3 => ?_) (fun h3 => ?_)
    · skip
      refine lv_lconst (v := 1) hx hb dX1_shiftedDown_16 (by decide) ?_
      exact W.lret hx hb hr (fun t ht hW => pq_l (by rw [sX1_shiftedDown, if_neg h1, if_neg h3]) ht) nil_free dX1_shiftedDown_17
    · skip
      refine lv_lconst (v := 0) hx hb dX1_shiftedDown_12 (by decide) ?_
      refine lv_goto (tgt := 17) hx hb dX1_shiftedDown_13 (by decide) ?_
      exact W.lret hx hb hr (fun t ht hW => pq_l (by rw [sX1_shiftedDown, if_neg h1, if_pos h3]) ht) nil_free dX1_shiftedDown_17
def sX1_size (n : Bool) (v : Int64) : Int64 := (v &&& ((psSB n) ^^^ (-1 : Int64)))
theorem nX1_size : yX1_size.cls ≠ "java/lang/invoke/MethodHandle" ∧ yX1_size.cls ≠ "java/lang/invoke/VarHandle" ∧ (parseMethodDescriptor yX1_size.desc).map (fun d => d.parameters.length) = some 1 := by decide +kernel
set_option maxHeartbeats 4000000 in
set_option maxRecDepth 100000 in
theorem m_X1_size (l : Launch) (D : va_G) (h0 : Nat) (n : Bool) (v : Int64) : PM l yX1_size cX1_size 3 (some .long) 0 [.ref h0, .long v] (soPS D h0 n) (.long (sX1_size n v)) := by
  refine Met.ofW (cc := cX1_size) (maxL := 3) (ret := (some .long)) (by decide) rfl ?_
  intro p e s m args below meth c s₁ B hml hv
  obtain ⟨rfl, hP, hK, hA⟩ := hv
  have hx := B.exec
  have hb := B.bytes
  have hr := B.returns
  have hts : ∀ w ∈ AW, w.before _ s = true := fun w h => atoms_spec (ws := Cond.code yX1_size cX1_size 3 (some .long) :: AW) B.pre w (List.mem_cons_of_mem _ h)
  have hown : s.vm.findClass RX1 = some m.cls := findClass_of_methodNamed B.named
  have hlocks := B.notSynchronized
  have hl := lv_entry ([.ref h0, .long v]) (n := 3) (Nat.le_of_ble_eq_true rfl)
  rw [lg_entry_eq]
  generalize (lg_sl ([.ref h0, .long v]) ++ List.replicate (3 - (lg_sl ([.ref h0, .long v])).length) Slot.unset).toArray = ls at hl ⊢
  have hl : lv_has ls 3 [(0, .ref h0), (1, .long v)] := hl
  refine lv_lload_n hx hb dX1_size_0 rfl (lv_at hl 1 rfl) ?_
  refine lv_aload_n hx hb dX1_size_1 rfl (lv_at hl 0 rfl) ?_
  refine va_get (v := .long (psSB n)) (C := RX1) (T := TX1) (N := 9) (ci := 2) hx hb hts inX1 hown hK hP 0 rfl rfl 3 (by decide) (hts _ q69) (fun _ h => h) rfl dX1_size_2 ?_
  refine lv_ldc2 hx hb hown (hts _ q66) dX1_size_5 ?_
  refine lv_lxor hx hb dX1_size_8 ?_
  refine lv_land hx hb dX1_size_9 ?_
  exact W.lret hx hb hr (fun t ht hW => pq_l (rfl) ht) nil_free dX1_size_10
def sX1_turn (n : Bool) (v : Int64) : Int64 := (v ^^^ (psSB n))
theorem nX1_turn : yX1_turn.cls ≠ "java/lang/invoke/MethodHandle" ∧ yX1_turn.cls ≠ "java/lang/invoke/VarHandle" ∧ (parseMethodDescriptor yX1_turn.desc).map (fun d => d.parameters.length) = some 1 := by decide +kernel
set_option maxHeartbeats 4000000 in
set_option maxRecDepth 100000 in
theorem m_X1_turn (l : Launch) (D : va_G) (h0 : Nat) (n : Bool) (v : Int64) : PM l yX1_turn cX1_turn 3 (some .long) 0 [.ref h0, .long v] (soPS D h0 n) (.long (sX1_turn n v)) := by
  refine Met.ofW (cc := cX1_turn) (maxL := 3) (ret := (some .long)) (by decide) rfl ?_
  intro p e s m args below meth c s₁ B hml hv
  obtain ⟨rfl, hP, hK, hA⟩ := hv
  have hx := B.exec
  have hb := B.bytes
  have hr := B.returns
  have hts : ∀ w ∈ AW, w.before _ s = true := fun w h => atoms_spec (ws := Cond.code yX1_turn cX1_turn 3 (some .long) :: AW) B.pre w (List.mem_cons_of_mem _ h)
  have hown : s.vm.findClass RX1 = some m.cls := findClass_of_methodNamed B.named
  have hlocks := B.notSynchronized
  have hl := lv_entry ([.ref h0, .long v]) (n := 3) (Nat.le_of_ble_eq_true rfl)
  rw [lg_entry_eq]
  generalize (lg_sl ([.ref h0, .long v]) ++ List.replicate (3 - (lg_sl ([.ref h0, .long v])).length) Slot.unset).toArray = ls at hl ⊢
  have hl : lv_has ls 3 [(0, .ref h0), (1, .long v)] := hl
  refine lv_lload_n hx hb dX1_turn_0 rfl (lv_at hl 1 rfl) ?_
  refine lv_aload_n hx hb dX1_turn_1 rfl (lv_at hl 0 rfl) ?_
  refine va_get (v := .long (psSB n)) (C := RX1) (T := TX1) (N := 9) (ci := 2) hx hb hts inX1 hown hK hP 0 rfl rfl 3 (by decide) (hts _ q69) (fun _ h => h) rfl dX1_turn_2 ?_
  refine lv_lxor hx hb dX1_turn_5 ?_
  exact W.lret hx hb hr (fun t ht hW => pq_l (rfl) ht) nil_free dX1_turn_6
def sX1_withSign (n : Bool) (v : Int64) (b : Int32) : Int64 := if b = 0 then v else (v ||| (psSB n))
theorem nX1_withSign : yX1_withSign.cls ≠ "java/lang/invoke/MethodHandle" ∧ yX1_withSign.cls ≠ "java/lang/invoke/VarHandle" ∧ (parseMethodDescriptor yX1_withSign.desc).map (fun d => d.parameters.length) = some 2 := by decide +kernel
set_option maxHeartbeats 4000000 in
set_option maxRecDepth 100000 in
theorem m_X1_withSign (l : Launch) (D : va_G) (h0 : Nat) (n : Bool) (v : Int64) (b : Int32) : PM l yX1_withSign cX1_withSign 4 (some .long) 0 [.ref h0, .long v, .int b] (soPS D h0 n) (.long (sX1_withSign n v b)) := by
  refine Met.ofW (cc := cX1_withSign) (maxL := 4) (ret := (some .long)) (by decide) rfl ?_
  intro p e s m args below meth c s₁ B hml hv
  obtain ⟨rfl, hP, hK, hA⟩ := hv
  have hx := B.exec
  have hb := B.bytes
  have hr := B.returns
  have hts : ∀ w ∈ AW, w.before _ s = true := fun w h => atoms_spec (ws := Cond.code yX1_withSign cX1_withSign 4 (some .long) :: AW) B.pre w (List.mem_cons_of_mem _ h)
  have hown : s.vm.findClass RX1 = some m.cls := findClass_of_methodNamed B.named
  have hlocks := B.notSynchronized
  have hl := lv_entry ([.ref h0, .long v, .int b]) (n := 4) (Nat.le_of_ble_eq_true rfl)
  rw [lg_entry_eq]
  generalize (lg_sl ([.ref h0, .long v, .int b]) ++ List.replicate (4 - (lg_sl ([.ref h0, .long v, .int b])).length) Slot.unset).toArray = ls at hl ⊢
  have hl : lv_has ls 4 [(0, .ref h0), (1, .long v), (3, .int b)] := hl
  refine lv_iload_n hx hb dX1_withSign_0 rfl (lv_at hl 2 rfl) ?_
  refine c_if_eq (tgt := 13) hx hb dX1_withSign_1 (by decide) (fun h1 => ?_) (fun h1 => ?_)
  · skip
    refine lv_lload_n hx hb dX1_withSign_13 rfl (lv_at hl 1 rfl) ?_
    exact W.lret hx hb hr (fun t ht hW => pq_l (by rw [sX1_withSign, if_pos h1]) ht) nil_free dX1_withSign_14
  · skip
    refine lv_lload_n hx hb dX1_withSign_4 rfl (lv_at hl 1 rfl) ?_
    refine lv_aload_n hx hb dX1_withSign_5 rfl (lv_at hl 0 rfl) ?_
    refine va_get (v := .long (psSB n)) (C := RX1) (T := TX1) (N := 9) (ci := 2) hx hb hts inX1 hown hK hP 0 rfl rfl 3 (by decide) (hts _ q69) (fun _ h => h) rfl dX1_withSign_6 ?_
    refine lv_lor hx hb dX1_withSign_9 ?_
    refine lv_goto (tgt := 14) hx hb dX1_withSign_10 (by decide) ?_
    exact W.lret hx hb hr (fun t ht hW => pq_l (by rw [sX1_withSign, if_neg h1]) ht) nil_free dX1_withSign_14
def sX1_isInfinite (n : Bool) (v : Int64) : Int32 := if (sX1_size n v) = (psInf n) then (1 : Int32) else (0 : Int32)
theorem nX1_isInfinite : yX1_isInfinite.cls ≠ "java/lang/invoke/MethodHandle" ∧ yX1_isInfinite.cls ≠ "java/lang/invoke/VarHandle" ∧ (parseMethodDescriptor yX1_isInfinite.desc).map (fun d => d.parameters.length) = some 1 := by decide +kernel
set_option maxHeartbeats 4000000 in
set_option maxRecDepth 100000 in
theorem m_X1_isInfinite (l : Launch) (D : va_G) (h0 : Nat) (n : Bool) (v : Int64) : PM l yX1_isInfinite cX1_isInfinite 3 (some .boolean) 1 [.ref h0, .long v] (soPS D h0 n) (.int (sX1_isInfinite n v)) := by
  refine Met.ofW (cc := cX1_isInfinite) (maxL := 3) (ret := (some .boolean)) (by decide) rfl ?_
  intro p e s m args below meth c s₁ B hml hv
  obtain ⟨rfl, hP, hK, hA⟩ := hv
  have hx := B.exec
  have hb := B.bytes
  have hr := B.returns
  have hts : ∀ w ∈ AW, w.before _ s = true := fun w h => atoms_spec (ws := Cond.code yX1_isInfinite cX1_isInfinite 3 (some .boolean) :: AW) B.pre w (List.mem_cons_of_mem _ h)
  have hown : s.vm.findClass RX1 = some m.cls := findClass_of_methodNamed B.named
  have hlocks := B.notSynchronized
  have hl := lv_entry ([.ref h0, .long v]) (n := 3) (Nat.le_of_ble_eq_true rfl)
  rw [lg_entry_eq]
  generalize (lg_sl ([.ref h0, .long v]) ++ List.replicate (3 - (lg_sl ([.ref h0, .long v])).length) Slot.unset).toArray = ls at hl ⊢
  have hl : lv_has ls 3 [(0, .ref h0), (1, .long v)] := hl
  refine lv_aload_n hx hb dX1_isInfinite_0 rfl (lv_at hl 0 rfl) ?_
  refine lv_lload_n hx hb dX1_isInfinite_1 rfl (lv_at hl 1 rfl) ?_
  refine p_V (C := RX1) (rest := []) hx hb hml hown hts (m_X1_size l D h0 n v) q243 q244 q245 q24 q246 rfl nX1_size ⟨Nat.le_of_ble_eq_true rfl, Nat.le_of_ble_eq_true rfl⟩ hl.1 rfl rfl (Nat.le_of_ble_eq_true rfl) dX1_isInfinite_2 ⟨Nat.zero_le _, Nat.zero_le _⟩ soPS_bl (va_recv hK hP (ci := 2) (q0 := 0) rfl rfl) (soPS_go hP hK hA) ?_
  refine lv_aload_n hx hb dX1_isInfinite_5 rfl (lv_at hl 0 rfl) ?_
  refine va_get (v := .long (psInf n)) (C := RX1) (T := TX1) (N := 9) (ci := 2) hx hb hts inX1 hown hK hP 0 rfl rfl 8 (by decide) (hts _ q74) (fun _ h => h) rfl dX1_isInfinite_6 ?_
  refine c_lcmp_ne (tgt := 17) hx hb dX1_isInfinite_9 dX1_isInfinite_10 (by decide) (fun h1 => ?_) (fun h1 => ?_)
  · skip
    refine lv_iconst (v := 0) hx hb dX1_isInfinite_17 (by decide) ?_
    exact W.zret (v := (0 : Int32)) hx hb hr rfl (fun t ht hW => pq_i (by rw [sX1_isInfinite, if_neg h1]) ht) nil_free dX1_isInfinite_18
  · skip
    refine lv_iconst (v := 1) hx hb dX1_isInfinite_13 (by decide) ?_
    refine lv_goto (tgt := 18) hx hb dX1_isInfinite_14 (by decide) ?_
    exact W.zret (v := (1 : Int32)) hx hb hr rfl (fun t ht hW => pq_i (by rw [sX1_isInfinite, if_pos h1]) ht) nil_free dX1_isInfinite_18
def sX1_isNumber (n : Bool) (v : Int64) : Int32 := if (psInf n) < (sX1_size n v) then (0 : Int32) else (1 : Int32)
theorem nX1_isNumber : yX1_isNumber.cls ≠ "java/lang/invoke/MethodHandle" ∧ yX1_isNumber.cls ≠ "java/lang/invoke/VarHandle" ∧ (parseMethodDescriptor yX1_isNumber.desc).map (fun d => d.parameters.length) = some 1 := by decide +kernel
set_option maxHeartbeats 4000000 in
set_option maxRecDepth 100000 in
theorem m_X1_isNumber (l : Launch) (D : va_G) (h0 : Nat) (n : Bool) (v : Int64) : PM l yX1_isNumber cX1_isNumber 3 (some .boolean) 1 [.ref h0, .long v] (soPS D h0 n) (.int (sX1_isNumber n v)) := by
  refine Met.ofW (cc := cX1_isNumber) (maxL := 3) (ret := (some .boolean)) (by decide) rfl ?_
  intro p e s m args below meth c s₁ B hml hv
  obtain ⟨rfl, hP, hK, hA⟩ := hv
  have hx := B.exec
  have hb := B.bytes
  have hr := B.returns
  have hts : ∀ w ∈ AW, w.before _ s = true := fun w h => atoms_spec (ws := Cond.code yX1_isNumber cX1_isNumber 3 (some .boolean) :: AW) B.pre w (List.mem_cons_of_mem _ h)
  have hown : s.vm.findClass RX1 = some m.cls := findClass_of_methodNamed B.named
  have hlocks := B.notSynchronized
  have hl := lv_entry ([.ref h0, .long v]) (n := 3) (Nat.le_of_ble_eq_true rfl)
  rw [lg_entry_eq]
  generalize (lg_sl ([.ref h0, .long v]) ++ List.replicate (3 - (lg_sl ([.ref h0, .long v])).length) Slot.unset).toArray = ls at hl ⊢
  have hl : lv_has ls 3 [(0, .ref h0), (1, .long v)] := hl
  refine lv_aload_n hx hb dX1_isNumber_0 rfl (lv_at hl 0 rfl) ?_
  refine lv_lload_n hx hb dX1_isNumber_1 rfl (lv_at hl 1 rfl) ?_
  refine p_V (C := RX1) (rest := []) hx hb hml hown hts (m_X1_size l D h0 n v) q243 q244 q245 q24 q246 rfl nX1_size ⟨Nat.le_of_ble_eq_true rfl, Nat.le_of_ble_eq_true rfl⟩ hl.1 rfl rfl (Nat.le_of_ble_eq_true rfl) dX1_isNumber_2 ⟨Nat.zero_le _, Nat.zero_le _⟩ soPS_bl (va_recv hK hP (ci := 2) (q0 := 0) rfl rfl) (soPS_go hP hK hA) ?_
  refine lv_aload_n hx hb dX1_isNumber_5 rfl (lv_at hl 0 rfl) ?_
  refine va_get (v := .long (psInf n)) (C := RX1) (T := TX1) (N := 9) (ci := 2) hx hb hts inX1 hown hK hP 0 rfl rfl 8 (by decide) (hts _ q74) (fun _ h => h) rfl dX1_isNumber_6 ?_
  refine c_lcmp_gt (tgt := 17) hx hb dX1_isNumber_9 dX1_isNumber_10 (by decide) (fun h1 => ?_) (fun h1 => ?_)
  · skip
    refine lv_iconst (v := 0) hx hb dX1_isNumber_17 (by decide) ?_
    exact W.zret (v := (0 : Int32)) hx hb hr rfl (fun t ht hW => pq_i (by rw [sX1_isNumber, if_pos h1]) ht) nil_free dX1_isNumber_18
  · skip
    refine lv_iconst (v := 1) hx hb dX1_isNumber_13 (by decide) ?_
    refine lv_goto (tgt := 18) hx hb dX1_isNumber_14 (by decide) ?_
    exact W.zret (v := (1 : Int32)) hx hb hr rfl (fun t ht hW => pq_i (by rw [sX1_isNumber, if_neg h1]) ht) nil_free dX1_isNumber_18
def sX1_rank (n : Bool) (v : Int64) : Int64 := if v < (0 : Int64) then ((-1 : Int64) - (sX1_size n v)) else v
theorem nX1_rank : yX1_rank.cls ≠ "java/lang/invoke/MethodHandle" ∧ yX1_rank.cls ≠ "java/lang/invoke/VarHandle" ∧ (parseMethodDescriptor yX1_rank.desc).map (fun d => d.parameters.length) = some 1 := by decide +kernel
set_option maxHeartbeats 4000000 in
set_option maxRecDepth 100000 in
theorem m_X1_rank (l : Launch) (D : va_G) (h0 : Nat) (n : Bool) (v : Int64) : PM l yX1_rank cX1_rank 3 (some .long) 1 [.ref h0, .long v] (soPS D h0 n) (.long (sX1_rank n v)) := by
  refine Met.ofW (cc := cX1_rank) (maxL := 3) (ret := (some .long)) (by decide) rfl ?_
  intro p e s m args below meth c s₁ B hml hv
  obtain ⟨rfl, hP, hK, hA⟩ := hv
  have hx := B.exec
  have hb := B.bytes
  have hr := B.returns
  have hts : ∀ w ∈ AW, w.before _ s = true := fun w h => atoms_spec (ws := Cond.code yX1_rank cX1_rank 3 (some .long) :: AW) B.pre w (List.mem_cons_of_mem _ h)
  have hown : s.vm.findClass RX1 = some m.cls := findClass_of_methodNamed B.named
  have hlocks := B.notSynchronized
  have hl := lv_entry ([.ref h0, .long v]) (n := 3) (Nat.le_of_ble_eq_true rfl)
  rw [lg_entry_eq]
  generalize (lg_sl ([.ref h0, .long v]) ++ List.replicate (3 - (lg_sl ([.ref h0, .long v])).length) Slot.unset).toArray = ls at hl ⊢
  have hl : lv_has ls 3 [(0, .ref h0), (1, .long v)] := hl
  refine lv_lload_n hx hb dX1_rank_0 rfl (lv_at hl 1 rfl) ?_
  refine lv_lconst (v := 0) hx hb dX1_rank_1 (by decide) ?_
  refine c_lcmp_ge (tgt := 18) hx hb dX1_rank_2 dX1_rank_3 (by decide) (fun h1 => ?_) (fun h1 => ?_)
  · skip
    refine lv_lload_n hx hb dX1_rank_18 rfl (lv_at hl 1 rfl) ?_
    exact W.lret hx hb hr (fun t ht hW => pq_l (by rw [sX1_rank, if_neg h1]) ht) nil_free dX1_rank_19
  · skip
    refine lv_ldc2 hx hb hown (hts _ q66) dX1_rank_6 ?_
    refine lv_aload_n hx hb dX1_rank_9 rfl (lv_at hl 0 rfl) ?_
    refine lv_lload_n hx hb dX1_rank_10 rfl (lv_at hl 1 rfl) ?_
    refine p_V (C := RX1) (rest := [.long (-1 : Int64)]) hx hb hml hown hts (m_X1_size l D h0 n v) q243 q244 q245 q24 q246 rfl nX1_size ⟨Nat.le_of_ble_eq_true rfl, Nat.le_of_ble_eq_true rfl⟩ hl.1 rfl rfl (Nat.le_of_ble_eq_true rfl) dX1_rank_11 ⟨Nat.zero_le _, Nat.zero_le _⟩ soPS_bl (va_recv hK hP (ci := 2) (q0 := 0) rfl rfl) (soPS_go hP hK hA) ?_
    refine lv_lsub hx hb dX1_rank_14 ?_
    refine lv_goto (tgt := 19) hx hb dX1_rank_15 (by decide) ?_
    exact W.lret hx hb hr (fun t ht hW => pq_l (by rw [sX1_rank, if_pos h1]) ht) nil_free dX1_rank_19
def sX1_exponent_e1 (n : Bool) (v : Int64) : Int32 := ((sX1_size n v) >>> ((psFB n).toInt64 &&& 63)).toInt32
def sX1_exponent (n : Bool) (v : Int64) : Int32 := if (sX1_exponent_e1 n v) = 0 then (1 : Int32) else (sX1_exponent_e1 n v)
theorem nX1_exponent : yX1_exponent.cls ≠ "java/lang/invoke/MethodHandle" ∧ yX1_exponent.cls ≠ "java/lang/invoke/VarHandle" ∧ (parseMethodDescriptor yX1_exponent.desc).map (fun d => d.parameters.length) = some 1 := by decide +kernel
set_option maxHeartbeats 4000000 in
set_option maxRecDepth 100000 in
theorem m_X1_exponent (l : Launch) (D : va_G) (h0 : Nat) (n : Bool) (v : Int64) : PM l yX1_exponent cX1_exponent 4 (some .int) 1 [.ref h0, .long v] (soPS D h0 n) (.int (sX1_exponent n v)) := by
  refine Met.ofW (cc := cX1_exponent) (maxL := 4) (ret := (some .int)) (by decide) rfl ?_
  intro p e s m args below meth c s₁ B hml hv
  obtain ⟨rfl, hP, hK, hA⟩ := hv
  have hx := B.exec
  have hb := B.bytes
  have hr := B.returns
  have hts : ∀ w ∈ AW, w.before _ s = true := fun w h => atoms_spec (ws := Cond.code yX1_exponent cX1_exponent 4 (some .int) :: AW) B.pre w (List.mem_cons_of_mem _ h)
  have hown : s.vm.findClass RX1 = some m.cls := findClass_of_methodNamed B.named
  have hlocks := B.notSynchronized
  have hl := lv_entry ([.ref h0, .long v]) (n := 4) (Nat.le_of_ble_eq_true rfl)
  rw [lg_entry_eq]
  generalize (lg_sl ([.ref h0, .long v]) ++ List.replicate (4 - (lg_sl ([.ref h0, .long v])).length) Slot.unset).toArray = ls at hl ⊢
  have hl : lv_has ls 4 [(0, .ref h0), (1, .long v)] := hl
  refine lv_aload_n hx hb dX1_exponent_0 rfl (lv_at hl 0 rfl) ?_
  refine lv_lload_n hx hb dX1_exponent_1 rfl (lv_at hl 1 rfl) ?_
  refine p_V (C := RX1) (rest := []) hx hb hml hown hts (m_X1_size l D h0 n v) q243 q244 q245 q24 q246 rfl nX1_size ⟨Nat.le_of_ble_eq_true rfl, Nat.le_of_ble_eq_true rfl⟩ hl.1 rfl rfl (Nat.le_of_ble_eq_true rfl) dX1_exponent_2 ⟨Nat.zero_le _, Nat.zero_le _⟩ soPS_bl (va_recv hK hP (ci := 2) (q0 := 0) rfl rfl) (soPS_go hP hK hA) ?_
  refine lv_aload_n hx hb dX1_exponent_5 rfl (lv_at hl 0 rfl) ?_
  refine va_get (v := .int (psFB n)) (C := RX1) (T := TX1) (N := 9) (ci := 2) hx hb hts inX1 hown hK hP 0 rfl rfl 1 (by decide) (hts _ q67) (fun _ h => h) rfl dX1_exponent_6 ?_
  refine lv_lshr hx hb dX1_exponent_9 rfl ?_
  refine lv_l2i hx hb dX1_exponent_10 rfl ?_
  refine p_top (w := .int (sX1_exponent_e1 n v)) rfl ?_
  refine lv_istore_n (lv' := [(3, .int (sX1_exponent_e1 n v)), (0, .ref h0), (1, .long v)]) hx hb dX1_exponent_11 rfl hl (by decide) rfl (fun ls hl => ?_)
  refine lv_iload_n hx hb dX1_exponent_12 rfl (lv_at hl 0 rfl) ?_
  refine c_if_ne (tgt := 20) hx hb dX1_exponent_13 (by decide) (fun h1 => ?_) (fun h1 => ?_)
  · skip
    refine lv_iload_n hx hb dX1_exponent_20 rfl (lv_at hl 0 rfl) ?_
    exact W.iret hx hb hr (fun t ht hW => pq_i (by rw [sX1_exponent, if_neg h1]) ht) nil_free dX1_exponent_21
  · skip
    refine lv_iconst (v := 1) hx hb dX1_exponent_16 (by decide) ?_
    refine lv_goto (tgt := 21) hx hb dX1_exponent_17 (by decide) ?_
    exact W.iret hx hb hr (fun t ht hW => pq_i (by rw [sX1_exponent, if_pos h1]) ht) nil_free dX1_exponent_21
def sX1_significand_e1 (n : Bool) (v : Int64) : Int64 := (v &&& ((psHB n) - (1 : Int64)))
def sX1_significand (n : Bool) (v : Int64) : Int64 := if (sX1_size n v) < (psHB n) then (sX1_significand_e1 n v) else ((sX1_significand_e1 n v) ||| (psHB n))
theorem nX1_significand : yX1_significand.cls ≠ "java/lang/invoke/MethodHandle" ∧ yX1_significand.cls ≠ "java/lang/invoke/VarHandle" ∧ (parseMethodDescriptor yX1_significand.desc).map (fun d => d.parameters.length) = some 1 := by decide +kernel
set_option maxHeartbeats 4000000 in
set_option maxRecDepth 100000 in
theorem m_X1_significand (l : Launch) (D : va_G) (h0 : Nat) (n : Bool) (v : Int64) : PM l yX1_significand cX1_significand 5 (some .long) 1 [.ref h0, .long v] (soPS D h0 n) (.long (sX1_significand n v)) := by
  refine Met.ofW (cc := cX1_significand) (maxL := 5) (ret := (some .long)) (by decide) rfl ?_
  intro p e s m args below meth c s₁ B hml hv
  obtain ⟨rfl, hP, hK, hA⟩ := hv
  have hx := B.exec
  have hb := B.bytes
  have hr := B.returns
  have hts : ∀ w ∈ AW, w.before _ s = true := fun w h => atoms_spec (ws := Cond.code yX1_significand cX1_significand 5 (some .long) :: AW) B.pre w (List.mem_cons_of_mem _ h)
  have hown : s.vm.findClass RX1 = some m.cls := findClass_of_methodNamed B.named
  have hlocks := B.notSynchronized
  have hl := lv_entry ([.ref h0, .long v]) (n := 5) (Nat.le_of_ble_eq_true rfl)
  rw [lg_entry_eq]
  generalize (lg_sl ([.ref h0, .long v]) ++ List.replicate (5 - (lg_sl ([.ref h0, .long v])).length) Slot.unset).toArray = ls at hl ⊢
  have hl : lv_has ls 5 [(0, .ref h0), (1, .long v)] := hl
  refine lv_lload_n hx hb dX1_significand_0 rfl (lv_at hl 1 rfl) ?_
  refine lv_aload_n hx hb dX1_significand_1 rfl (lv_at hl 0 rfl) ?_
  refine va_get (v := .long (psHB n)) (C := RX1) (T := TX1) (N := 9) (ci := 2) hx hb hts inX1 hown hK hP 0 rfl rfl 2 (by decide) (hts _ q68) (fun _ h => h) rfl dX1_significand_2 ?_
  refine lv_lconst (v := 1) hx hb dX1_significand_5 (by decide) ?_
  refine lv_lsub hx hb dX1_significand_6 ?_
  refine lv_land hx hb dX1_significand_7 ?_
  refine p_top (w := .long (sX1_significand_e1 n v)) rfl ?_
  refine lv_lstore_n (lv' := [(3, .long (sX1_significand_e1 n v)), (0, .ref h0), (1, .long v)]) hx hb dX1_significand_8 rfl hl (by decide) rfl (fun ls hl => ?_)
  refine lv_aload_n hx hb dX1_significand_9 rfl (lv_at hl 1 rfl) ?_
  refine lv_lload_n hx hb dX1_significand_10 rfl (lv_at hl 2 rfl) ?_
  refine p_V (C := RX1) (rest := []) hx hb hml hown hts (m_X1_size l D h0 n v) q243 q244 q245 q24 q246 rfl nX1_size ⟨Nat.le_of_ble_eq_true rfl, Nat.le_of_ble_eq_true rfl⟩ hl.1 rfl rfl (Nat.le_of_ble_eq_true rfl) dX1_significand_11 ⟨Nat.zero_le _, Nat.zero_le _⟩ soPS_bl (va_recv hK hP (ci := 2) (q0 := 0) rfl rfl) (soPS_go hP hK hA) ?_
  refine lv_aload_n hx hb dX1_significand_14 rfl (lv_at hl 1 rfl) ?_
  refine va_get (v := .long (psHB n)) (C := RX1) (T := TX1) (N := 9) (ci := 2) hx hb hts inX1 hown hK hP 0 rfl rfl 2 (by decide) (hts _ q68) (fun _ h => h) rfl dX1_significand_15 ?_
  refine c_lcmp_ge (tgt := 26) hx hb dX1_significand_18 dX1_significand_19 (by decide) (fun h1 => ?_) (fun h1 => ?_)
  · skip
    refine lv_lload_n hx hb dX1_significand_26 rfl (lv_at hl 0 rfl) ?_
    refine lv_aload_n hx hb dX1_significand_27 rfl (lv_at hl 1 rfl) ?_
    refine va_get (v := .long (psHB n)) (C := RX1) (T := TX1) (N := 9) (ci := 2) hx hb hts inX1 hown hK hP 0 rfl rfl 2 (by decide) (hts _ q68) (fun _ h => h) rfl dX1_significand_28 ?_
    refine lv_lor hx hb dX1_significand_31 ?_
    exact W.lret hx hb hr (fun t ht hW => pq_l (by rw [sX1_significand, if_neg h1]) ht) nil_free dX1_significand_32
  · skip
    refine lv_lload_n hx hb dX1_significand_22 rfl (lv_at hl 0 rfl) ?_
    refine lv_goto (tgt := 32) hx hb dX1_significand_23 (by decide) ?_
    exact W.lret hx hb hr (fun t ht hW => pq_l (by rw [sX1_significand, if_pos h1]) ht) nil_free dX1_significand_32
def sX1_unitOf_e1 (n : Bool) (v : Int64) : Int32 := ((v >>> ((psFB n).toInt64 &&& 63)).toInt32 - (psE1 n))
def sX1_unitOf (n : Bool) (v : Int64) : Int64 := if (sX1_unitOf_e1 n v) < (psFB n) then ((1 : Int64) <<< (((psFB n) - (sX1_unitOf_e1 n v)).toInt64 &&& 63)) else (1 : Int64)
theorem nX1_unitOf : yX1_unitOf.cls ≠ "java/lang/invoke/MethodHandle" ∧ yX1_unitOf.cls ≠ "java/lang/invoke/VarHandle" ∧ (parseMethodDescriptor yX1_unitOf.desc).map (fun d => d.parameters.length) = some 1 := by decide +kernel
set_option maxHeartbeats 4000000 in
set_option maxRecDepth 100000 in
theorem m_X1_unitOf (l : Launch) (D : va_G) (h0 : Nat) (n : Bool) (v : Int64) : PM l yX1_unitOf cX1_unitOf 4 (some .long) 0 [.ref h0, .long v] (soPS D h0 n) (.long (sX1_unitOf n v)) := by
  refine Met.ofW (cc := cX1_unitOf) (maxL := 4) (ret := (some .long)) (by decide) rfl ?_
  intro p e s m args below meth c s₁ B hml hv
  obtain ⟨rfl, hP, hK, hA⟩ := hv
  have hx := B.exec
  have hb := B.bytes
  have hr := B.returns
  have hts : ∀ w ∈ AW, w.before _ s = true := fun w h => atoms_spec (ws := Cond.code yX1_unitOf cX1_unitOf 4 (some .long) :: AW) B.pre w (List.mem_cons_of_mem _ h)
  have hown : s.vm.findClass RX1 = some m.cls := findClass_of_methodNamed B.named
  have hlocks := B.notSynchronized
  have hl := lv_entry ([.ref h0, .long v]) (n := 4) (Nat.le_of_ble_eq_true rfl)
  rw [lg_entry_eq]
  generalize (lg_sl ([.ref h0, .long v]) ++ List.replicate (4 - (lg_sl ([.ref h0, .long v])).length) Slot.unset).toArray = ls at hl ⊢
  have hl : lv_has ls 4 [(0, .ref h0), (1, .long v)] := hl
  refine lv_lload_n hx hb dX1_unitOf_0 rfl (lv_at hl 1 rfl) ?_
  refine lv_aload_n hx hb dX1_unitOf_1 rfl (lv_at hl 0 rfl) ?_
  refine va_get (v := .int (psFB n)) (C := RX1) (T := TX1) (N := 9) (ci := 2) hx hb hts inX1 hown hK hP 0 rfl rfl 1 (by decide) (hts _ q67) (fun _ h => h) rfl dX1_unitOf_2 ?_
  refine lv_lshr hx hb dX1_unitOf_5 rfl ?_
  refine lv_l2i hx hb dX1_unitOf_6 rfl ?_
  refine lv_aload_n hx hb dX1_unitOf_7 rfl (lv_at hl 0 rfl) ?_
  refine va_get (v := .int (psE1 n)) (C := RX1) (T := TX1) (N := 9) (ci := 2) hx hb hts inX1 hown hK hP 0 rfl rfl 4 (by decide) (hts _ q70) (fun _ h => h) rfl dX1_unitOf_8 ?_
  refine lv_isub hx hb dX1_unitOf_11 ?_
  refine p_top (w := .int (sX1_unitOf_e1 n v)) rfl ?_
  refine lv_istore_n (lv' := [(3, .int (sX1_unitOf_e1 n v)), (0, .ref h0), (1, .long v)]) hx hb dX1_unitOf_12 rfl hl (by decide) rfl (fun ls hl => ?_)
  refine lv_iload_n hx hb dX1_unitOf_13 rfl (lv_at hl 0 rfl) ?_
  refine lv_aload_n hx hb dX1_unitOf_14 rfl (lv_at hl 1 rfl) ?_
  refine va_get (v := .int (psFB n)) (C := RX1) (T := TX1) (N := 9) (ci := 2) hx hb hts inX1 hown hK hP 0 rfl rfl 1 (by decide) (hts _ q67) (fun _ h => h) rfl dX1_unitOf_15 ?_
  refine c_icmp_lt (tgt := 25) hx hb dX1_unitOf_18 (by decide) (fun h1 => ?_) (fun h1 => ?_)
  · skip
    refine lv_lconst (v := 1) hx hb dX1_unitOf_25 (by decide) ?_
    refine lv_aload_n hx hb dX1_unitOf_26 rfl (lv_at hl 1 rfl) ?_
    refine va_get (v := .int (psFB n)) (C := RX1) (T := TX1) (N := 9) (ci := 2) hx hb hts inX1 hown hK hP 0 rfl rfl 1 (by decide) (hts _ q67) (fun _ h => h) rfl dX1_unitOf_27 ?_
    refine lv_iload_n hx hb dX1_unitOf_30 rfl (lv_at hl 0 rfl) ?_
    refine lv_isub hx hb dX1_unitOf_31 ?_
    refine lv_lshl hx hb dX1_unitOf_32 rfl ?_
    exact W.lret hx hb hr (fun t ht hW => pq_l (by rw [sX1_unitOf, if_pos h1]) ht) nil_free dX1_unitOf_33
  · skip
    refine lv_lconst (v := 1) hx hb dX1_unitOf_21 (by decide) ?_
    refine lv_goto (tgt := 33) hx hb dX1_unitOf_22 (by decide) ?_
    exact W.lret hx hb hr (fun t ht hW => pq_l (by rw [sX1_unitOf, if_neg h1]) ht) nil_free dX1_unitOf_33
def sX1_wholeDown (n : Bool) (v : Int64) : Int64 := if v < (psOne n) then (0 : Int64) else (v &&& (-(sX1_unitOf n v)))
theorem nX1_wholeDown : yX1_wholeDown.cls ≠ "java/lang/invoke/MethodHandle" ∧ yX1_wholeDown.cls ≠ "java/lang/invoke/VarHandle" ∧ (parseMethodDescriptor yX1_wholeDown.desc).map (fun d => d.parameters.length) = some 1 := by decide +kernel
set_option maxHeartbeats 4000000 in
set_option maxRecDepth 100000 in
theorem m_X1_wholeDown (l : Launch) (D : va_G) (h0 : Nat) (n : Bool) (v : Int64) : PM l yX1_wholeDown cX1_wholeDown 3 (some .long) 1 [.ref h0, .long v] (soPS D h0 n) (.long (sX1_wholeDown n v)) := by
  refine Met.ofW (cc := cX1_wholeDown) (maxL := 3) (ret := (some .long)) (by decide) rfl ?_
  intro p e s m args below meth c s₁ B hml hv
  obtain ⟨rfl, hP, hK, hA⟩ := hv
  have hx := B.exec
  have hb := B.bytes
  have hr := B.returns
  have hts : ∀ w ∈ AW, w.before _ s = true := fun w h => atoms_spec (ws := Cond.code yX1_wholeDown cX1_wholeDown 3 (some .long) :: AW) B.pre w (List.mem_cons_of_mem _ h)
  have hown : s.vm.findClass RX1 = some m.cls := findClass_of_methodNamed B.named
  have hlocks := B.notSynchronized
  have hl := lv_entry ([.ref h0, .long v]) (n := 3) (Nat.le_of_ble_eq_true rfl)
  rw [lg_entry_eq]
  generalize (lg_sl ([.ref h0, .long v]) ++ List.replicate (3 - (lg_sl ([.ref h0, .long v])).length) Slot.unset).toArray = ls at hl ⊢
  have hl : lv_has ls 3 [(0, .ref h0), (1, .long v)] := hl
  refine lv_lload_n hx hb dX1_wholeDown_0 rfl (lv_at hl 1 rfl) ?_
  refine lv_aload_n hx hb dX1_wholeDown_1 rfl (lv_at hl 0 rfl) ?_
  refine va_get (v := .long (psOne n)) (C := RX1) (T := TX1) (N := 9) (ci := 2) hx hb hts inX1 hown hK hP 0 rfl rfl 6 (by decide) (hts _ q72) (fun _ h => h) rfl dX1_wholeDown_2 ?_
  refine c_lcmp_ge (tgt := 13) hx hb dX1_wholeDown_5 dX1_wholeDown_6 (by decide) (fun h1 => ?_) (fun h1 => ?_)
  · skip
    refine lv_lload_n hx hb dX1_wholeDown_13 rfl (lv_at hl 1 rfl) ?_
    refine lv_aload_n hx hb dX1_wholeDown_14 rfl (lv_at hl 0 rfl) ?_
    refine lv_lload_n hx hb dX1_wholeDown_15 rfl (lv_at hl 1 rfl) ?_
    refine p_V (C := RX1) (rest := [.long v]) hx hb hml hown hts (m_X1_unitOf l D h0 n v) q441 q443 q12 q24 q444 rfl nX1_unitOf ⟨Nat.le_of_ble_eq_true rfl, Nat.le_of_ble_eq_true rfl⟩ hl.1 rfl rfl (Nat.le_of_ble_eq_true rfl) dX1_wholeDown_16 ⟨Nat.zero_le _, Nat.zero_le _⟩ soPS_bl (va_recv hK hP (ci := 2) (q0 := 0) rfl rfl) (soPS_go hP hK hA) ?_
    refine lv_lneg hx hb dX1_wholeDown_19 ?_
    refine lv_land hx hb dX1_wholeDown_20 ?_
    exact W.lret hx hb hr (fun t ht hW => pq_l (by rw [sX1_wholeDown, if_neg h1]) ht) nil_free dX1_wholeDown_21
  · skip
    refine lv_lconst (v := 0) hx hb dX1_wholeDown_9 (by decide) ?_
    refine lv_goto (tgt := 21) hx hb dX1_wholeDown_10 (by decide) ?_
    exact W.lret hx hb hr (fun t ht hW => pq_l (by rw [sX1_wholeDown, if_pos h1]) ht) nil_free dX1_wholeDown_21
def sX1_wholeUp_e1 (n : Bool) (v : Int64) : Int64 := (v &&& (-(sX1_unitOf n v)))
def sX1_wholeUp (n : Bool) (v : Int64) : Int64 := if v < (psOne n) then if v = (0 : Int64) then (0 : Int64) else (psOne n) else if (sX1_wholeUp_e1 n v) = v then (sX1_wholeUp_e1 n v) else ((sX1_wholeUp_e1 n v) + (sX1_unitOf n v))
theorem nX1_wholeUp : yX1_wholeUp.cls ≠ "java/lang/invoke/MethodHandle" ∧ yX1_wholeUp.cls ≠ "java/lang/invoke/VarHandle" ∧ (parseMethodDescriptor yX1_wholeUp.desc).map (fun d => d.parameters.length) = some 1 := by decide +kernel
set_option maxHeartbeats 4000000 in
set_option maxRecDepth 100000 in
theorem m_X1_wholeUp (l : Launch) (D : va_G) (h0 : Nat) (n : Bool) (v : Int64) : PM l yX1_wholeUp cX1_wholeUp 7 (some .long) 1 [.ref h0, .long v] (soPS D h0 n) (.long (sX1_wholeUp n v)) := by
  refine Met.ofW (cc := cX1_wholeUp) (maxL := 7) (ret := (some .long)) (by decide) rfl ?_
  intro p e s m args below meth c s₁ B hml hv
  obtain ⟨rfl, hP, hK, hA⟩ := hv
  have hx := B.exec
  have hb := B.bytes
  have hr := B.returns
  have hts : ∀ w ∈ AW, w.before _ s = true := fun w h => atoms_spec (ws := Cond.code yX1_wholeUp cX1_wholeUp 7 (some .long) :: AW) B.pre w (List.mem_cons_of_mem _ h)
  have hown : s.vm.findClass RX1 = some m.cls := findClass_of_methodNamed B.named
  have hlocks := B.notSynchronized
  have hl := lv_entry ([.ref h0, .long v]) (n := 7) (Nat.le_of_ble_eq_true rfl)
  rw [lg_entry_eq]
  generalize (lg_sl ([.ref h0, .long v]) ++ List.replicate (7 - (lg_sl ([.ref h0, .long v])).length) Slot.unset).toArray = ls at hl ⊢
  have hl : lv_has ls 7 [(0, .ref h0), (1, .long v)] := hl
  refine lv_lload_n hx hb dX1_wholeUp_0 rfl (lv_at hl 1 rfl) ?_
  refine lv_aload_n hx hb dX1_wholeUp_1 rfl (lv_at hl 0 rfl) ?_
  refine va_get (v := .long (psOne n)) (C := RX1) (T := TX1) (N := 9) (ci := 2) hx hb hts inX1 hown hK hP 0 rfl rfl 6 (by decide) (hts _ q72) (fun _ h => h) rfl dX1_wholeUp_2 ?_
  refine c_lcmp_ge (tgt := 24) hx hb dX1_wholeUp_5 dX1_wholeUp_6 (by decide) (fun h1 => ?_) (fun h1 => ?_)
  · skip
    refine lv_aload_n hx hb dX1_wholeUp_24 rfl (lv_at hl 0 rfl) ?_
    refine lv_lload_n hx hb dX1_wholeUp_25 rfl (lv_at hl 1 rfl) ?_
    refine p_V (C := RX1) (rest := []) hx hb hml hown hts (m_X1_unitOf l D h0 n v) q441 q443 q12 q24 q444 rfl nX1_unitOf ⟨Nat.le_of_ble_eq_true rfl, Nat.le_of_ble_eq_true rfl⟩ hl.1 rfl rfl (Nat.le_of_ble_eq_true rfl) dX1_wholeUp_26 ⟨Nat.zero_le _, Nat.zero_le _⟩ soPS_bl (va_recv hK hP (ci := 2) (q0 := 0) rfl rfl) (soPS_go hP hK hA) ?_
    refine lv_lstore_n (lv' := [(3, .long (sX1_unitOf n v)), (0, .ref h0), (1, .long v)]) hx hb dX1_wholeUp_29 rfl hl (by decide) rfl (fun ls hl => ?_)
    refine lv_lload_n hx hb dX1_wholeUp_30 rfl (lv_at hl 2 rfl) ?_
    refine lv_lload_n hx hb dX1_wholeUp_31 rfl (lv_at hl 0 rfl) ?_
    refine lv_lneg hx hb dX1_wholeUp_32 ?_
    refine lv_land hx hb dX1_wholeUp_33 ?_
    refine p_top (w := .long (sX1_wholeUp_e1 n v)) rfl ?_
    refine lv_lstore (lv' := [(5, .long (sX1_wholeUp_e1 n v)), (3, .long (sX1_unitOf n v)), (0, .ref h0), (1, .long v)]) hx hb dX1_wholeUp_34 hl (by decide) rfl (fun ls hl => ?_)
    refine lv_lload hx hb dX1_wholeUp_36 (lv_at hl 0 rfl) ?_
    refine lv_lload_n hx hb dX1_wholeUp_38 rfl (lv_at hl 3 rfl) ?_
    refine c_lcmp_ne (tgt := 48) hx hb dX1_wholeUp_39 dX1_wholeUp_40 (by decide) (fun h2 => ?_) (fun h2 => ?_)
    · skip
      refine lv_lload hx hb dX1_wholeUp_48 (lv_at hl 0 rfl) ?_
      refine lv_lload_n hx hb dX1_wholeUp_50 rfl (lv_at hl 1 rfl) ?_
      refine lv_ladd hx hb dX1_wholeUp_51 ?_
      exact W.lret hx hb hr (fun t ht hW => pq_l (by rw [sX1_wholeUp, if_neg h1, if_neg h2]) ht) nil_free dX1_wholeUp_52
    · skip
      refine lv_lload hx hb dX1_wholeUp_43 (lv_at hl 0 rfl) ?_
      refine lv_goto (tgt := 52) hx hb dX1_wholeUp_45 (by decide) ?_
      exact W.lret hx hb hr (fun t ht hW => pq_l (by rw [sX1_wholeUp, if_neg h1, if_pos h2]) ht) nil_free dX1_wholeUp_52
  · skip
    refine lv_lload_n hx hb dX1_wholeUp_9 rfl (lv_at hl 1 rfl) ?_
    refine lv_lconst (v := 0) hx hb dX1_wholeUp_10 (by decide) ?_
    refine c_lcmp_ne (tgt := 19) hx hb dX1_wholeUp_11 dX1_wholeUp_12 (by decide) (fun h3 => ?_) (fun h3 => ?_)
    · skip
      refine lv_aload_n hx hb dX1_wholeUp_19 rfl (lv_at hl 0 rfl) ?_
      refine va_get (v := .long (psOne n)) (C := RX1) (T := TX1) (N := 9) (ci := 2) hx hb hts inX1 hown hK hP 0 rfl rfl 6 (by decide) (hts _ q72) (fun _ h => h) rfl dX1_wholeUp_20 ?_
      exact W.lret hx hb hr (fun t ht hW => pq_l (by rw [sX1_wholeUp, if_pos h1, if_neg h3]) ht) nil_free dX1_wholeUp_23
    · skip
      refine lv_lconst (v := 0) hx hb dX1_wholeUp_15 (by decide) ?_
      refine lv_goto (tgt := 23) hx hb dX1_wholeUp_16 (by decide) ?_
      exact W.lret hx hb hr (fun t ht hW => pq_l (by rw [sX1_wholeUp, if_pos h1, if_pos h3]) ht) nil_free dX1_wholeUp_23
def sX1_wholeNear_e1 (n : Bool) (v : Int64) : Int64 := (v &&& (-(sX1_unitOf n v)))
def sX1_wholeNear_e2 (n : Bool) (v : Int64) : Int64 := ((v - (sX1_wholeNear_e1 n v)) <<< ((1 : Int32).toInt64 &&& 63))
def sX1_wholeNear_j3 (n : Bool) (v : Int64) : Int32 := (if (((sX1_wholeNear_e1 n v) ||| (psHB n)) &&& (sX1_unitOf n v)) = (0 : Int64) then (0 : Int32) else (1 : Int32))
def sX1_wholeNear_j4 (n : Bool) (v : Int64) : Int32 := (if (sX1_unitOf n v) < (sX1_wholeNear_e2 n v) then (1 : Int32) else (if (sX1_wholeNear_e2 n v) = (sX1_unitOf n v) then (if (sX1_wholeNear_j3 n v) = 0 then (0 : Int32) else (1 : Int32)) else (0 : Int32)))
def sX1_wholeNear (n : Bool) (v : Int64) : Int64 := if v < (psOne n) then if (psHalf n) < v then (psOne n) else (0 : Int64) else if (sX1_wholeNear_j4 n v) = 0 then (sX1_wholeNear_e1 n v) else ((sX1_wholeNear_e1 n v) + (sX1_unitOf n v))
theorem nX1_wholeNear : yX1_wholeNear.cls ≠ "java/lang/invoke/MethodHandle" ∧ yX1_wholeNear.cls ≠ "java/lang/invoke/VarHandle" ∧ (parseMethodDescriptor yX1_wholeNear.desc).map (fun d => d.parameters.length) = some 1 := by decide +kernel
set_option maxHeartbeats 4000000 in
set_option maxRecDepth 100000 in
theorem m_X1_wholeNear (l : Launch) (D : va_G) (h0 : Nat) (n : Bool) (v : Int64) : PM l yX1_wholeNear cX1_wholeNear 11 (some .long) 1 [.ref h0, .long v] (soPS D h0 n) (.long (sX1_wholeNear n v)) := by
  refine Met.ofW (cc := cX1_wholeNear) (maxL := 11) (ret := (some .long)) (by decide) rfl ?_
  intro p e s m args below meth c s₁ B hml hv
  obtain ⟨rfl, hP, hK, hA⟩ := hv
  have hx := B.exec
  have hb := B.bytes
  have hr := B.returns
  have hts : ∀ w ∈ AW, w.before _ s = true := fun w h => atoms_spec (ws := Cond.code yX1_wholeNear cX1_wholeNear 11 (some .long) :: AW) B.pre w (List.mem_cons_of_mem _ h)
  have hown : s.vm.findClass RX1 = some m.cls := findClass_of_methodNamed B.named
  have hlocks := B.notSynchronized
  have hl := lv_entry ([.ref h0, .long v]) (n := 11) (Nat.le_of_ble_eq_true rfl)
  rw [lg_entry_eq]
  generalize (lg_sl ([.ref h0, .long v]) ++ List.replicate (11 - (lg_sl ([.ref h0, .long v])).length) Slot.unset).toArray = ls at hl ⊢
  have hl : lv_has ls 11 [(0, .ref h0), (1, .long v)] := hl
  refine lv_lload_n hx hb dX1_wholeNear_0 rfl (lv_at hl 1 rfl) ?_
  refine lv_aload_n hx hb dX1_wholeNear_1 rfl (lv_at hl 0 rfl) ?_
  refine va_get (v := .long (psOne n)) (C := RX1) (T := TX1) (N := 9) (ci := 2) hx hb hts inX1 hown hK hP 0 rfl rfl 6 (by decide) (hts _ q72) (fun _ h => h) rfl dX1_wholeNear_2 ?_
  refine c_lcmp_ge (tgt := 27) hx hb dX1_wholeNear_5 dX1_wholeNear_6 (by decide) (fun h1 => ?_) (fun h1 => ?_)
  · skip
    refine lv_aload_n hx hb dX1_wholeNear_27 rfl (lv_at hl 0 rfl) ?_
    refine lv_lload_n hx hb dX1_wholeNear_28 rfl (lv_at hl 1 rfl) ?_
    refine p_V (C := RX1) (rest := []) hx hb hml hown hts (m_X1_unitOf l D h0 n v) q441 q443 q12 q24 q444 rfl nX1_unitOf ⟨Nat.le_of_ble_eq_true rfl, Nat.le_of_ble_eq_true rfl⟩ hl.1 rfl rfl (Nat.le_of_ble_eq_true rfl) dX1_wholeNear_29 ⟨Nat.zero_le _, Nat.zero_le _⟩ soPS_bl (va_recv hK hP (ci := 2) (q0 := 0) rfl rfl) (soPS_go hP hK hA) ?_
    refine lv_lstore_n (lv' := [(3, .long (sX1_unitOf n v)), (0, .ref h0), (1, .long v)]) hx hb dX1_wholeNear_32 rfl hl (by decide) rfl (fun ls hl => ?_)
    refine lv_lload_n hx hb dX1_wholeNear_33 rfl (lv_at hl 2 rfl) ?_
    refine lv_lload_n hx hb dX1_wholeNear_34 rfl (lv_at hl 0 rfl) ?_
    refine lv_lneg hx hb dX1_wholeNear_35 ?_
    refine lv_land hx hb dX1_wholeNear_36 ?_
    refine p_top (w := .long (sX1_wholeNear_e1 n v)) rfl ?_
    refine lv_lstore (lv' := [(5, .long (sX1_wholeNear_e1 n v)), (3, .long (sX1_unitOf n v)), (0, .ref h0), (1, .long v)]) hx hb dX1_wholeNear_37 hl (by decide) rfl (fun ls hl => ?_)
    refine lv_lload_n hx hb dX1_wholeNear_39 rfl (lv_at hl 3 rfl) ?_
    refine lv_lload hx hb dX1_wholeNear_40 (lv_at hl 0 rfl) ?_
    refine lv_lsub hx hb dX1_wholeNear_42 ?_
    refine lv_iconst (v := 1) hx hb dX1_wholeNear_43 (by decide) ?_
    refine lv_lshl hx hb dX1_wholeNear_44 rfl ?_
    refine p_top (w := .long (sX1_wholeNear_e2 n v)) rfl ?_
    refine lv_lstore (lv' := [(7, .long (sX1_wholeNear_e2 n v)), (5, .long (sX1_wholeNear_e1 n v)), (3, .long (sX1_unitOf n v)), (0, .ref h0), (1, .long v)]) hx hb dX1_wholeNear_45 hl (by decide) rfl (fun ls hl => ?_)
    refine lv_lload hx hb dX1_wholeNear_47 (lv_at hl 1 rfl) ?_
    refine lv_aload_n hx hb dX1_wholeNear_49 rfl (lv_at hl 3 rfl) ?_
    refine va_get (v := .long (psHB n)) (C := RX1) (T := TX1) (N := 9) (ci := 2) hx hb hts inX1 hown hK hP 0 rfl rfl 2 (by decide) (hts _ q68) (fun _ h => h) rfl dX1_wholeNear_50 ?_
    refine lv_lor hx hb dX1_wholeNear_53 ?_
    refine lv_lload_n hx hb dX1_wholeNear_54 rfl (lv_at hl 2 rfl) ?_
    refine lv_land hx hb dX1_wholeNear_55 ?_
    refine lv_lconst (v := 0) hx hb dX1_wholeNear_56 (by decide) ?_
    refine p_join (J := 66) (nL := 11) (st := [.int (sX1_wholeNear_j3 n v)]) (lv := [(7, .long (sX1_wholeNear_e2 n v)), (5, .long (sX1_wholeNear_e1 n v)), (3, .long (sX1_unitOf n v)), (0, .ref h0), (1, .long v)]) (fun ls hl => ?_) (fun K2 => ?_)
    rotate_left
    · refine c_lcmp_eq (tgt := 65) hx hb dX1_wholeNear_57 dX1_wholeNear_58 (by decide) (fun h2 => ?_) (fun h2 => ?_)
      · skip
        refine lv_iconst (v := 0) hx hb dX1_wholeNear_65 (by decide) ?_
        simp only [sX1_wholeNear_j3, if_pos h2] at K2
        exact K2 ls (lv_sub hl [0, 1, 2, 3, 4] rfl)
      · skip
        refine lv_iconst (v := 1) hx hb dX1_wholeNear_61 (by decide) ?_
        refine lv_goto (tgt := 66) hx hb dX1_wholeNear_62 (by decide) ?_
        simp only [sX1_wholeNear_j3, if_neg h2] at K2
        exact K2 ls (lv_sub hl [0, 1, 2, 3, 4] rfl)
    refine lv_istore (lv' := [(9, .int (sX1_wholeNear_j3 n v)), (7, .long (sX1_wholeNear_e2 n v)), (5, .long (sX1_wholeNear_e1 n v)), (3, .long (sX1_unitOf n v)), (0, .ref h0), (1, .long v)]) hx hb dX1_wholeNear_66 hl (by decide) rfl (fun ls hl => ?_)
    refine lv_lload hx hb dX1_wholeNear_68 (lv_at hl 1 rfl) ?_
    refine lv_lload_n hx hb dX1_wholeNear_70 rfl (lv_at hl 3 rfl) ?_
    refine p_join (J := 92) (nL := 11) (st := [.int (sX1_wholeNear_j4 n v)]) (lv := [(9, .int (sX1_wholeNear_j3 n v)), (7, .long (sX1_wholeNear_e2 n v)), (5, .long (sX1_wholeNear_e1 n v)), (3, .long (sX1_unitOf n v)), (0, .ref h0), (1, .long v)]) (fun ls hl => ?_) (fun K3 => ?_)
    rotate_left
    · refine c_lcmp_gt (tgt := 87) hx hb dX1_wholeNear_71 dX1_wholeNear_72 (by decide) (fun h3 => ?_) (fun h3 => ?_)
      · skip
        refine lv_iconst (v := 1) hx hb dX1_wholeNear_87 (by decide) ?_
        refine lv_goto (tgt := 92) hx hb dX1_wholeNear_88 (by decide) ?_
        simp only [sX1_wholeNear_j4, if_pos h3] at K3
        exact K3 ls (lv_sub hl [0, 1, 2, 3, 4, 5] rfl)
      · skip
        refine lv_lload hx hb dX1_wholeNear_75 (lv_at hl 1 rfl) ?_
        refine lv_lload_n hx hb dX1_wholeNear_77 rfl (lv_at hl 3 rfl) ?_
        refine c_lcmp_ne (tgt := 91) hx hb dX1_wholeNear_78 dX1_wholeNear_79 (by decide) (fun h4 => ?_) (fun h4 => ?_)
        · skip
          refine lv_iconst (v := 0) hx hb dX1_wholeNear_91 (by decide) ?_
          simp only [sX1_wholeNear_j4, if_neg h3, if_neg h4] at K3
          exact K3 ls (lv_sub hl [0, 1, 2, 3, 4, 5] rfl)
        · skip
          refine lv_iload hx hb dX1_wholeNear_82 (lv_at hl 0 rfl) ?_
          refine c_if_eq (tgt := 91) hx hb dX1_wholeNear_84 (by decide) (fun h5 => ?_) (fun h5 => ?_)
          · skip
            refine lv_iconst (v := 0) hx hb dX1_wholeNear_91 (by decide) ?_
            simp only [sX1_wholeNear_j4, if_neg h3, if_pos h4, if_pos h5] at K3
            exact K3 ls (lv_sub hl [0, 1, 2, 3, 4, 5] rfl)
          · skip
            refine lv_iconst (v := 1) hx hb dX1_wholeNear_87 (by decide) ?_
            refine lv_goto (tgt := 92) hx hb dX1_wholeNear_88 (by decide) ?_
            simp only [sX1_wholeNear_j4, if_neg h3, if_pos h4, if_neg h5] at K3
            exact K3 ls (lv_sub hl [0, 1, 2, 3, 4, 5] rfl)
    refine lv_istore (lv' := [(10, .int (sX1_wholeNear_j4 n v)), (9, .int (sX1_wholeNear_j3 n v)), (7, .long (sX1_wholeNear_e2 n v)), (5, .long (sX1_wholeNear_e1 n v)), (3, .long (sX1_unitOf n v)), (0, .ref h0), (1, .long v)]) hx hb dX1_wholeNear_92 hl (by decide) rfl (fun ls hl => ?_)
    refine lv_iload hx hb dX1_wholeNear_94 (lv_at hl 0 rfl) ?_
    refine c_if_eq (tgt := 106) hx hb dX1_wholeNear_96 (by decide) (fun h6 => ?_) (fun h6 => ?_)
    · skip
      refine lv_lload hx hb dX1_wholeNear_106 (lv_at hl 3 rfl) ?_
      exact W.lret hx hb hr (fun t ht hW => pq_l (by rw [sX1_wholeNear, if_neg h1, if_pos h6]) ht) nil_free dX1_wholeNear_108
    · skip
      refine lv_lload hx hb dX1_wholeNear_99 (lv_at hl 3 rfl) ?_
      refine lv_lload_n hx hb dX1_wholeNear_101 rfl (lv_at hl 4 rfl) ?_
      refine lv_ladd hx hb dX1_wholeNear_102 ?_
      refine lv_goto (tgt := 108) hx hb dX1_wholeNear_103 (by decide) ?_
      exact W.lret hx hb hr (fun t ht hW => pq_l (by rw [sX1_wholeNear, if_neg h1, if_neg h6]) ht) nil_free dX1_wholeNear_108
  · skip
    refine lv_lload_n hx hb dX1_wholeNear_9 rfl (lv_at hl 1 rfl) ?_
    refine lv_aload_n hx hb dX1_wholeNear_10 rfl (lv_at hl 0 rfl) ?_
    refine va_get (v := .long (psHalf n)) (C := RX1) (T := TX1) (N := 9) (ci := 2) hx hb hts inX1 hown hK hP 0 rfl rfl 7 (by decide) (hts _ q73) (fun _ h => h) rfl dX1_wholeNear_11 ?_
    refine c_lcmp_le (tgt := 25) hx hb dX1_wholeNear_14 dX1_wholeNear_15 (by decide) (fun h7 => ?_) (fun h7 => ?_)
    · skip
      refine lv_lconst (v := 0) hx hb dX1_wholeNear_25 (by decide) ?_
      exact W.lret hx hb hr (fun t ht hW => pq_l (by rw [sX1_wholeNear, if_pos h1, if_neg h7]) ht) nil_free dX1_wholeNear_26
    · skip
      refine lv_aload_n hx hb dX1_wholeNear_18 rfl (lv_at hl 0 rfl) ?_
      refine va_get (v := .long (psOne n)) (C := RX1) (T := TX1) (N := 9) (ci := 2) hx hb hts inX1 hown hK hP 0 rfl rfl 6 (by decide) (hts _ q72) (fun _ h => h) rfl dX1_wholeNear_19 ?_
      refine lv_goto (tgt := 26) hx hb dX1_wholeNear_22 (by decide) ?_
      exact W.lret hx hb hr (fun t ht hW => pq_l (by rw [sX1_wholeNear, if_pos h1, if_pos h7]) ht) nil_free dX1_wholeNear_26
def sX1_down (n : Bool) (v : Int64) : Int64 := if v < (0 : Int64) then (sX1_withSign n (sX1_wholeUp n (sX1_size n v)) (1 : Int32)) else (sX1_wholeDown n v)
theorem nX1_down : yX1_down.cls ≠ "java/lang/invoke/MethodHandle" ∧ yX1_down.cls ≠ "java/lang/invoke/VarHandle" ∧ (parseMethodDescriptor yX1_down.desc).map (fun d => d.parameters.length) = some 1 := by decide +kernel
set_option maxHeartbeats 4000000 in
set_option maxRecDepth 100000 in
theorem m_X1_down (l : Launch) (D : va_G) (h0 : Nat) (n : Bool) (v : Int64) : PM l yX1_down cX1_down 3 (some .long) 2 [.ref h0, .long v] (soPS D h0 n) (.long (sX1_down n v)) := by
  refine Met.ofW (cc := cX1_down) (maxL := 3) (ret := (some .long)) (by decide) rfl ?_
  intro p e s m args below meth c s₁ B hml hv
  obtain ⟨rfl, hP, hK, hA⟩ := hv
  have hx := B.exec
  have hb := B.bytes
  have hr := B.returns
  have hts : ∀ w ∈ AW, w.before _ s = true := fun w h => atoms_spec (ws := Cond.code yX1_down cX1_down 3 (some .long) :: AW) B.pre w (List.mem_cons_of_mem _ h)
  have hown : s.vm.findClass RX1 = some m.cls := findClass_of_methodNamed B.named
  have hlocks := B.notSynchronized
  have hl := lv_entry ([.ref h0, .long v]) (n := 3) (Nat.le_of_ble_eq_true rfl)
  rw [lg_entry_eq]
  generalize (lg_sl ([.ref h0, .long v]) ++ List.replicate (3 - (lg_sl ([.ref h0, .long v])).length) Slot.unset).toArray = ls at hl ⊢
  have hl : lv_has ls 3 [(0, .ref h0), (1, .long v)] := hl
  refine lv_lload_n hx hb dX1_down_0 rfl (lv_at hl 1 rfl) ?_
  refine lv_lconst (v := 0) hx hb dX1_down_1 (by decide) ?_
  refine c_lcmp_ge (tgt := 23) hx hb dX1_down_2 dX1_down_3 (by decide) (fun h1 => ?_) (fun h1 => ?_)
  · skip
    refine lv_aload_n hx hb dX1_down_23 rfl (lv_at hl 0 rfl) ?_
    refine lv_lload_n hx hb dX1_down_24 rfl (lv_at hl 1 rfl) ?_
    refine p_V (C := RX1) (rest := []) hx hb hml hown hts (m_X1_wholeDown l D h0 n v) q445 q447 q13 q24 q448 rfl nX1_wholeDown ⟨Nat.le_of_ble_eq_true rfl, Nat.le_of_ble_eq_true rfl⟩ hl.1 rfl rfl (Nat.le_of_ble_eq_true rfl) dX1_down_25 ⟨Nat.zero_le _, Nat.zero_le _⟩ soPS_bl (va_recv hK hP (ci := 2) (q0 := 0) rfl rfl) (soPS_go hP hK hA) ?_
    exact W.lret hx hb hr (fun t ht hW => pq_l (by rw [sX1_down, if_neg h1]) ht) nil_free dX1_down_28
  · skip
    refine lv_aload_n hx hb dX1_down_6 rfl (lv_at hl 0 rfl) ?_
    refine lv_aload_n hx hb dX1_down_7 rfl (lv_at hl 0 rfl) ?_
    refine lv_aload_n hx hb dX1_down_8 rfl (lv_at hl 0 rfl) ?_
    refine lv_lload_n hx hb dX1_down_9 rfl (lv_at hl 1 rfl) ?_
    refine p_V (C := RX1) (rest := [.ref h0, .ref h0]) hx hb hml hown hts (m_X1_size l D h0 n v) q243 q244 q245 q24 q246 rfl nX1_size ⟨Nat.le_of_ble_eq_true rfl, Nat.le_of_ble_eq_true rfl⟩ hl.1 rfl rfl (Nat.le_of_ble_eq_true rfl) dX1_down_10 ⟨Nat.zero_le _, Nat.zero_le _⟩ soPS_bl (va_recv hK hP (ci := 2) (q0 := 0) rfl rfl) (soPS_go hP hK hA) ?_
    refine p_V (C := RX1) (rest := [.ref h0]) hx hb hml hown hts (m_X1_wholeUp l D h0 n (sX1_size n v)) q437 q439 q11 q24 q440 rfl nX1_wholeUp ⟨Nat.le_of_ble_eq_true rfl, Nat.le_of_ble_eq_true rfl⟩ hl.1 rfl rfl (Nat.le_of_ble_eq_true rfl) dX1_down_13 ⟨Nat.zero_le _, Nat.zero_le _⟩ soPS_bl (va_recv hK hP (ci := 2) (q0 := 0) rfl rfl) (soPS_go hP hK hA) ?_
    refine lv_iconst (v := 1) hx hb dX1_down_16 (by decide) ?_
    refine p_V (C := RX1) (rest := []) hx hb hml hown hts (m_X1_withSign l D h0 n (sX1_wholeUp n (sX1_size n v)) (1 : Int32)) q288 q290 q7 q24 q291 rfl nX1_withSign ⟨Nat.le_of_ble_eq_true rfl, Nat.le_of_ble_eq_true rfl⟩ hl.1 rfl rfl (Nat.le_of_ble_eq_true rfl) dX1_down_17 ⟨Nat.zero_le _, Nat.zero_le _⟩ soPS_bl (va_recv hK hP (ci := 2) (q0 := 0) rfl rfl) (soPS_go hP hK hA) ?_
    refine lv_goto (tgt := 28) hx hb dX1_down_20 (by decide) ?_
    exact W.lret hx hb hr (fun t ht hW => pq_l (by rw [sX1_down, if_pos h1]) ht) nil_free dX1_down_28
def sX1_up (n : Bool) (v : Int64) : Int64 := if v < (0 : Int64) then (sX1_withSign n (sX1_wholeDown n (sX1_size n v)) (1 : Int32)) else (sX1_wholeUp n v)
theorem nX1_up : yX1_up.cls ≠ "java/lang/invoke/MethodHandle" ∧ yX1_up.cls ≠ "java/lang/invoke/VarHandle" ∧ (parseMethodDescriptor yX1_up.desc).map (fun d => d.parameters.length) = some 1 := by decide +kernel
set_option maxHeartbeats 4000000 in
set_option maxRecDepth 100000 in
theorem m_X1_up (l : Launch) (D : va_G) (h0 : Nat) (n : Bool) (v : Int64) : PM l yX1_up cX1_up 3 (some .long) 2 [.ref h0, .long v] (soPS D h0 n) (.long (sX1_up n v)) := by
  refine Met.ofW (cc := cX1_up) (maxL := 3) (ret := (some .long)) (by decide) rfl ?_
  intro p e s m args below meth c s₁ B hml hv
  obtain ⟨rfl, hP, hK, hA⟩ := hv
  have hx := B.exec
  have hb := B.bytes
  have hr := B.returns
  have hts : ∀ w ∈ AW, w.before _ s = true := fun w h => atoms_spec (ws := Cond.code yX1_up cX1_up 3 (some .long) :: AW) B.pre w (List.mem_cons_of_mem _ h)
  have hown : s.vm.findClass RX1 = some m.cls := findClass_of_methodNamed B.named
  have hlocks := B.notSynchronized
  have hl := lv_entry ([.ref h0, .long v]) (n := 3) (Nat.le_of_ble_eq_true rfl)
  rw [lg_entry_eq]
  generalize (lg_sl ([.ref h0, .long v]) ++ List.replicate (3 - (lg_sl ([.ref h0, .long v])).length) Slot.unset).toArray = ls at hl ⊢
  have hl : lv_has ls 3 [(0, .ref h0), (1, .long v)] := hl
  refine lv_lload_n hx hb dX1_up_0 rfl (lv_at hl 1 rfl) ?_
  refine lv_lconst (v := 0) hx hb dX1_up_1 (by decide) ?_
  refine c_lcmp_ge (tgt := 23) hx hb dX1_up_2 dX1_up_3 (by decide) (fun h1 => ?_) (fun h1 => ?_)
  · skip
    refine lv_aload_n hx hb dX1_up_23 rfl (lv_at hl 0 rfl) ?_
    refine lv_lload_n hx hb dX1_up_24 rfl (lv_at hl 1 rfl) ?_
    refine p_V (C := RX1) (rest := []) hx hb hml hown hts (m_X1_wholeUp l D h0 n v) q437 q439 q11 q24 q440 rfl nX1_wholeUp ⟨Nat.le_of_ble_eq_true rfl, Nat.le_of_ble_eq_true rfl⟩ hl.1 rfl rfl (Nat.le_of_ble_eq_true rfl) dX1_up_25 ⟨Nat.zero_le _, Nat.zero_le _⟩ soPS_bl (va_recv hK hP (ci := 2) (q0 := 0) rfl rfl) (soPS_go hP hK hA) ?_
    exact W.lret hx hb hr (fun t ht hW => pq_l (by rw [sX1_up, if_neg h1]) ht) nil_free dX1_up_28
  · skip
    refine lv_aload_n hx hb dX1_up_6 rfl (lv_at hl 0 rfl) ?_
    refine lv_aload_n hx hb dX1_up_7 rfl (lv_at hl 0 rfl) ?_
    refine lv_aload_n hx hb dX1_up_8 rfl (lv_at hl 0 rfl) ?_
    refine lv_lload_n hx hb dX1_up_9 rfl (lv_at hl 1 rfl) ?_
    refine p_V (C := RX1) (rest := [.ref h0, .ref h0]) hx hb hml hown hts (m_X1_size l D h0 n v) q243 q244 q245 q24 q246 rfl nX1_size ⟨Nat.le_of_ble_eq_true rfl, Nat.le_of_ble_eq_true rfl⟩ hl.1 rfl rfl (Nat.le_of_ble_eq_true rfl) dX1_up_10 ⟨Nat.zero_le _, Nat.zero_le _⟩ soPS_bl (va_recv hK hP (ci := 2) (q0 := 0) rfl rfl) (soPS_go hP hK hA) ?_
    refine p_V (C := RX1) (rest := [.ref h0]) hx hb hml hown hts (m_X1_wholeDown l D h0 n (sX1_size n v)) q445 q447 q13 q24 q448 rfl nX1_wholeDown ⟨Nat.le_of_ble_eq_true rfl, Nat.le_of_ble_eq_true rfl⟩ hl.1 rfl rfl (Nat.le_of_ble_eq_true rfl) dX1_up_13 ⟨Nat.zero_le _, Nat.zero_le _⟩ soPS_bl (va_recv hK hP (ci := 2) (q0 := 0) rfl rfl) (soPS_go hP hK hA) ?_
    refine lv_iconst (v := 1) hx hb dX1_up_16 (by decide) ?_
    refine p_V (C := RX1) (rest := []) hx hb hml hown hts (m_X1_withSign l D h0 n (sX1_wholeDown n (sX1_size n v)) (1 : Int32)) q288 q290 q7 q24 q291 rfl nX1_withSign ⟨Nat.le_of_ble_eq_true rfl, Nat.le_of_ble_eq_true rfl⟩ hl.1 rfl rfl (Nat.le_of_ble_eq_true rfl) dX1_up_17 ⟨Nat.zero_le _, Nat.zero_le _⟩ soPS_bl (va_recv hK hP (ci := 2) (q0 := 0) rfl rfl) (soPS_go hP hK hA) ?_
    refine lv_goto (tgt := 28) hx hb dX1_up_20 (by decide) ?_
    exact W.lret hx hb hr (fun t ht hW => pq_l (by rw [sX1_up, if_pos h1]) ht) nil_free dX1_up_28
def sX1_near_j1 (n : Bool) (v : Int64) : Int32 := (if v < (0 : Int64) then (1 : Int32) else (0 : Int32))
def sX1_near (n : Bool) (v : Int64) : Int64 := (sX1_withSign n (sX1_wholeNear n (sX1_size n v)) (sX1_near_j1 n v))
theorem nX1_near : yX1_near.cls ≠ "java/lang/invoke/MethodHandle" ∧ yX1_near.cls ≠ "java/lang/invoke/VarHandle" ∧ (parseMethodDescriptor yX1_near.desc).map (fun d => d.parameters.length) = some 1 := by decide +kernel
set_option maxHeartbeats 4000000 in
set_option maxRecDepth 100000 in
theorem m_X1_near (l : Launch) (D : va_G) (h0 : Nat) (n : Bool) (v : Int64) : PM l yX1_near cX1_near 3 (some .long) 2 [.ref h0, .long v] (soPS D h0 n) (.long (sX1_near n v)) := by
  refine Met.ofW (cc := cX1_near) (maxL := 3) (ret := (some .long)) (by decide) rfl ?_
  intro p e s m args below meth c s₁ B hml hv
  obtain ⟨rfl, hP, hK, hA⟩ := hv
  have hx := B.exec
  have hb := B.bytes
  have hr := B.returns
  have hts : ∀ w ∈ AW, w.before _ s = true := fun w h => atoms_spec (ws := Cond.code yX1_near cX1_near 3 (some .long) :: AW) B.pre w (List.mem_cons_of_mem _ h)
  have hown : s.vm.findClass RX1 = some m.cls := findClass_of_methodNamed B.named
  have hlocks := B.notSynchronized
  have hl := lv_entry ([.ref h0, .long v]) (n := 3) (Nat.le_of_ble_eq_true rfl)
  rw [lg_entry_eq]
  generalize (lg_sl ([.ref h0, .long v]) ++ List.replicate (3 - (lg_sl ([.ref h0, .long v])).length) Slot.unset).toArray = ls at hl ⊢
  have hl : lv_has ls 3 [(0, .ref h0), (1, .long v)] := hl
  refine lv_aload_n hx hb dX1_near_0 rfl (lv_at hl 0 rfl) ?_
  refine lv_aload_n hx hb dX1_near_1 rfl (lv_at hl 0 rfl) ?_
  refine lv_aload_n hx hb dX1_near_2 rfl (lv_at hl 0 rfl) ?_
  refine lv_lload_n hx hb dX1_near_3 rfl (lv_at hl 1 rfl) ?_
  refine p_V (C := RX1) (rest := [.ref h0, .ref h0]) hx hb hml hown hts (m_X1_size l D h0 n v) q243 q244 q245 q24 q246 rfl nX1_size ⟨Nat.le_of_ble_eq_true rfl, Nat.le_of_ble_eq_true rfl⟩ hl.1 rfl rfl (Nat.le_of_ble_eq_true rfl) dX1_near_4 ⟨Nat.zero_le _, Nat.zero_le _⟩ soPS_bl (va_recv hK hP (ci := 2) (q0 := 0) rfl rfl) (soPS_go hP hK hA) ?_
  refine p_V (C := RX1) (rest := [.ref h0]) hx hb hml hown hts (m_X1_wholeNear l D h0 n (sX1_size n v)) q467 q469 q14 q24 q470 rfl nX1_wholeNear ⟨Nat.le_of_ble_eq_true rfl, Nat.le_of_ble_eq_true rfl⟩ hl.1 rfl rfl (Nat.le_of_ble_eq_true rfl) dX1_near_7 ⟨Nat.zero_le _, Nat.zero_le _⟩ soPS_bl (va_recv hK hP (ci := 2) (q0 := 0) rfl rfl) (soPS_go hP hK hA) ?_
  refine lv_lload_n hx hb dX1_near_10 rfl (lv_at hl 1 rfl) ?_
  refine lv_lconst (v := 0) hx hb dX1_near_11 (by decide) ?_
  refine p_join (J := 21) (nL := 3) (st := [.int (sX1_near_j1 n v), .long (sX1_wholeNear n (sX1_size n v)), .ref h0]) (lv := [(0, .ref h0), (1, .long v)]) (fun ls hl => ?_) (fun K1 => ?_)
  rotate_left
  · refine c_lcmp_ge (tgt := 20) hx hb dX1_near_12 dX1_near_13 (by decide) (fun h1 => ?_) (fun h1 => ?_)
    · skip
      refine lv_iconst (v := 0) hx hb dX1_near_20 (by decide) ?_
      simp only [sX1_near_j1, if_neg h1] at K1
      exact K1 ls (lv_sub hl [0, 1] rfl)
    · skip
      refine lv_iconst (v := 1) hx hb dX1_near_16 (by decide) ?_
      refine lv_goto (tgt := 21) hx hb dX1_near_17 (by decide) ?_
      simp only [sX1_near_j1, if_pos h1] at K1
      exact K1 ls (lv_sub hl [0, 1] rfl)
  refine p_V (C := RX1) (rest := []) hx hb hml hown hts (m_X1_withSign l D h0 n (sX1_wholeNear n (sX1_size n v)) (sX1_near_j1 n v)) q288 q290 q7 q24 q291 rfl nX1_withSign ⟨Nat.le_of_ble_eq_true rfl, Nat.le_of_ble_eq_true rfl⟩ hl.1 rfl rfl (Nat.le_of_ble_eq_true rfl) dX1_near_21 ⟨Nat.zero_le _, Nat.zero_le _⟩ soPS_bl (va_recv hK hP (ci := 2) (q0 := 0) rfl rfl) (soPS_go hP hK hA) ?_
  exact W.lret hx hb hr (fun t ht hW => pq_l (rfl) ht) nil_free dX1_near_24
def sX1_sign_j1 (n : Bool) (v : Int64) : Int32 := (if v < (0 : Int64) then (1 : Int32) else (0 : Int32))
def sX1_sign (n : Bool) (v : Int64) : Int64 := if (sX1_size n v) = (0 : Int64) then v else (sX1_withSign n (psOne n) (sX1_sign_j1 n v))
theorem nX1_sign : yX1_sign.cls ≠ "java/lang/invoke/MethodHandle" ∧ yX1_sign.cls ≠ "java/lang/invoke/VarHandle" ∧ (parseMethodDescriptor yX1_sign.desc).map (fun d => d.parameters.length) = some 1 := by decide +kernel
set_option maxHeartbeats 4000000 in
set_option maxRecDepth 100000 in
theorem m_X1_sign (l : Launch) (D : va_G) (h0 : Nat) (n : Bool) (v : Int64) : PM l yX1_sign cX1_sign 3 (some .long) 1 [.ref h0, .long v] (soPS D h0 n) (.long (sX1_sign n v)) := by
  refine Met.ofW (cc := cX1_sign) (maxL := 3) (ret := (some .long)) (by decide) rfl ?_
  intro p e s m args below meth c s₁ B hml hv
  obtain ⟨rfl, hP, hK, hA⟩ := hv
  have hx := B.exec
  have hb := B.bytes
  have hr := B.returns
  have hts : ∀ w ∈ AW, w.before _ s = true := fun w h => atoms_spec (ws := Cond.code yX1_sign cX1_sign 3 (some .long) :: AW) B.pre w (List.mem_cons_of_mem _ h)
  have hown : s.vm.findClass RX1 = some m.cls := findClass_of_methodNamed B.named
  have hlocks := B.notSynchronized
  have hl := lv_entry ([.ref h0, .long v]) (n := 3) (Nat.le_of_ble_eq_true rfl)
  rw [lg_entry_eq]
  generalize (lg_sl ([.ref h0, .long v]) ++ List.replicate (3 - (lg_sl ([.ref h0, .long v])).length) Slot.unset).toArray = ls at hl ⊢
  have hl : lv_has ls 3 [(0, .ref h0), (1, .long v)] := hl
  refine lv_aload_n hx hb dX1_sign_0 rfl (lv_at hl 0 rfl) ?_
  refine lv_lload_n hx hb dX1_sign_1 rfl (lv_at hl 1 rfl) ?_
  refine p_V (C := RX1) (rest := []) hx hb hml hown hts (m_X1_size l D h0 n v) q243 q244 q245 q24 q246 rfl nX1_size ⟨Nat.le_of_ble_eq_true rfl, Nat.le_of_ble_eq_true rfl⟩ hl.1 rfl rfl (Nat.le_of_ble_eq_true rfl) dX1_sign_2 ⟨Nat.zero_le _, Nat.zero_le _⟩ soPS_bl (va_recv hK hP (ci := 2) (q0 := 0) rfl rfl) (soPS_go hP hK hA) ?_
  refine lv_lconst (v := 0) hx hb dX1_sign_5 (by decide) ?_
  refine c_lcmp_ne (tgt := 14) hx hb dX1_sign_6 dX1_sign_7 (by decide) (fun h1 => ?_) (fun h1 => ?_)
  · skip
    refine lv_aload_n hx hb dX1_sign_14 rfl (lv_at hl 0 rfl) ?_
    refine lv_aload_n hx hb dX1_sign_15 rfl (lv_at hl 0 rfl) ?_
    refine va_get (v := .long (psOne n)) (C := RX1) (T := TX1) (N := 9) (ci := 2) hx hb hts inX1 hown hK hP 0 rfl rfl 6 (by decide) (hts _ q72) (fun _ h => h) rfl dX1_sign_16 ?_
    refine lv_lload_n hx hb dX1_sign_19 rfl (lv_at hl 1 rfl) ?_
    refine lv_lconst (v := 0) hx hb dX1_sign_20 (by decide) ?_
    refine p_join (J := 30) (nL := 3) (st := [.int (sX1_sign_j1 n v), .long (psOne n), .ref h0]) (lv := [(0, .ref h0), (1, .long v)]) (fun ls hl => ?_) (fun K2 => ?_)
    rotate_left
    · refine c_lcmp_ge (tgt := 29) hx hb dX1_sign_21 dX1_sign_22 (by decide) (fun h2 => ?_) (fun h2 => ?_)
      · skip
        refine lv_iconst (v := 0) hx hb dX1_sign_29 (by decide) ?_
        simp only [sX1_sign_j1, if_neg h2] at K2
        exact K2 ls (lv_sub hl [0, 1] rfl)
      · skip
        refine lv_iconst (v := 1) hx hb dX1_sign_25 (by decide) ?_
        refine lv_goto (tgt := 30) hx hb dX1_sign_26 (by decide) ?_
        simp only [sX1_sign_j1, if_pos h2] at K2
        exact K2 ls (lv_sub hl [0, 1] rfl)
    refine p_V (C := RX1) (rest := []) hx hb hml hown hts (m_X1_withSign l D h0 n (psOne n) (sX1_sign_j1 n v)) q288 q290 q7 q24 q291 rfl nX1_withSign ⟨Nat.le_of_ble_eq_true rfl, Nat.le_of_ble_eq_true rfl⟩ hl.1 rfl rfl (Nat.le_of_ble_eq_true rfl) dX1_sign_30 ⟨Nat.zero_le _, Nat.zero_le _⟩ soPS_bl (va_recv hK hP (ci := 2) (q0 := 0) rfl rfl) (soPS_go hP hK hA) ?_
    exact W.lret hx hb hr (fun t ht hW => pq_l (by rw [sX1_sign, if_neg h1]) ht) nil_free dX1_sign_33
  · skip
    refine lv_lload_n hx hb dX1_sign_10 rfl (lv_at hl 1 rfl) ?_
    refine lv_goto (tgt := 33) hx hb dX1_sign_11 (by decide) ?_
    exact W.lret hx hb hr (fun t ht hW => pq_l (by rw [sX1_sign, if_pos h1]) ht) nil_free dX1_sign_33
def sX1_like_j1 (n : Bool) (v : Int64) (w : Int64) : Int32 := (if w < (0 : Int64) then (1 : Int32) else (0 : Int32))
def sX1_like (n : Bool) (v : Int64) (w : Int64) : Int64 := (sX1_withSign n (sX1_size n v) (sX1_like_j1 n v w))
theorem nX1_like : yX1_like.cls ≠ "java/lang/invoke/MethodHandle" ∧ yX1_like.cls ≠ "java/lang/invoke/VarHandle" ∧ (parseMethodDescriptor yX1_like.desc).map (fun d => d.parameters.length) = some 2 := by decide +kernel
set_option maxHeartbeats 4000000 in
set_option maxRecDepth 100000 in
theorem m_X1_like (l : Launch) (D : va_G) (h0 : Nat) (n : Bool) (v : Int64) (w : Int64) : PM l yX1_like cX1_like 5 (some .long) 1 [.ref h0, .long v, .long w] (soPS D h0 n) (.long (sX1_like n v w)) := by
  refine Met.ofW (cc := cX1_like) (maxL := 5) (ret := (some .long)) (by decide) rfl ?_
  intro p e s m args below meth c s₁ B hml hv
  obtain ⟨rfl, hP, hK, hA⟩ := hv
  have hx := B.exec
  have hb := B.bytes
  have hr := B.returns
  have hts : ∀ w ∈ AW, w.before _ s = true := fun w h => atoms_spec (ws := Cond.code yX1_like cX1_like 5 (some .long) :: AW) B.pre w (List.mem_cons_of_mem _ h)
  have hown : s.vm.findClass RX1 = some m.cls := findClass_of_methodNamed B.named
  have hlocks := B.notSynchronized
  have hl := lv_entry ([.ref h0, .long v, .long w]) (n := 5) (Nat.le_of_ble_eq_true rfl)
  rw [lg_entry_eq]
  generalize (lg_sl ([.ref h0, .long v, .long w]) ++ List.replicate (5 - (lg_sl ([.ref h0, .long v, .long w])).length) Slot.unset).toArray = ls at hl ⊢
  have hl : lv_has ls 5 [(0, .ref h0), (1, .long v), (3, .long w)] := hl
  refine lv_aload_n hx hb dX1_like_0 rfl (lv_at hl 0 rfl) ?_
  refine lv_aload_n hx hb dX1_like_1 rfl (lv_at hl 0 rfl) ?_
  refine lv_lload_n hx hb dX1_like_2 rfl (lv_at hl 1 rfl) ?_
  refine p_V (C := RX1) (rest := [.ref h0]) hx hb hml hown hts (m_X1_size l D h0 n v) q243 q244 q245 q24 q246 rfl nX1_size ⟨Nat.le_of_ble_eq_true rfl, Nat.le_of_ble_eq_true rfl⟩ hl.1 rfl rfl (Nat.le_of_ble_eq_true rfl) dX1_like_3 ⟨Nat.zero_le _, Nat.zero_le _⟩ soPS_bl (va_recv hK hP (ci := 2) (q0 := 0) rfl rfl) (soPS_go hP hK hA) ?_
  refine lv_lload_n hx hb dX1_like_6 rfl (lv_at hl 2 rfl) ?_
  refine lv_lconst (v := 0) hx hb dX1_like_7 (by decide) ?_
  refine p_join (J := 17) (nL := 5) (st := [.int (sX1_like_j1 n v w), .long (sX1_size n v), .ref h0]) (lv := [(0, .ref h0), (1, .long v), (3, .long w)]) (fun ls hl => ?_) (fun K1 => ?_)
  rotate_left
  · refine c_lcmp_ge (tgt := 16) hx hb dX1_like_8 dX1_like_9 (by decide) (fun h1 => ?_) (fun h1 => ?_)
    · skip
      refine lv_iconst (v := 0) hx hb dX1_like_16 (by decide) ?_
      simp only [sX1_like_j1, if_neg h1] at K1
      exact K1 ls (lv_sub hl [0, 1, 2] rfl)
    · skip
      refine lv_iconst (v := 1) hx hb dX1_like_12 (by decide) ?_
      refine lv_goto (tgt := 17) hx hb dX1_like_13 (by decide) ?_
      simp only [sX1_like_j1, if_pos h1] at K1
      exact K1 ls (lv_sub hl [0, 1, 2] rfl)
  refine p_V (C := RX1) (rest := []) hx hb hml hown hts (m_X1_withSign l D h0 n (sX1_size n v) (sX1_like_j1 n v w)) q288 q290 q7 q24 q291 rfl nX1_withSign ⟨Nat.le_of_ble_eq_true rfl, Nat.le_of_ble_eq_true rfl⟩ hl.1 rfl rfl (Nat.le_of_ble_eq_true rfl) dX1_like_17 ⟨Nat.zero_le _, Nat.zero_le _⟩ soPS_bl (va_recv hK hP (ci := 2) (q0 := 0) rfl rfl) (soPS_go hP hK hA) ?_
  exact W.lret hx hb hr (fun t ht hW => pq_l (rfl) ht) nil_free dX1_like_20
def sX1_canMeet (n : Bool) (v : Int64) (w : Int64) : Int32 := if (sX1_isInfinite n v) = 0 then (1 : Int32) else if (sX1_isInfinite n w) = 0 then (1 : Int32) else if v = w then (1 : Int32) else (0 : Int32)
theorem nX1_canMeet : yX1_canMeet.cls ≠ "java/lang/invoke/MethodHandle" ∧ yX1_canMeet.cls ≠ "java/lang/invoke/VarHandle" ∧ (parseMethodDescriptor yX1_canMeet.desc).map (fun d => d.parameters.length) = some 2 := by decide +kernel
set_option maxHeartbeats 4000000 in
set_option maxRecDepth 100000 in
theorem m_X1_canMeet (l : Launch) (D : va_G) (h0 : Nat) (n : Bool) (v : Int64) (w : Int64) : PM l yX1_canMeet cX1_canMeet 5 (some .boolean) 2 [.ref h0, .long v, .long w] (soPS D h0 n) (.int (sX1_canMeet n v w)) := by
  refine Met.ofW (cc := cX1_canMeet) (maxL := 5) (ret := (some .boolean)) (by decide) rfl ?_
  intro p e s m args below meth c s₁ B hml hv
  obtain ⟨rfl, hP, hK, hA⟩ := hv
  have hx := B.exec
  have hb := B.bytes
  have hr := B.returns
  have hts : ∀ w ∈ AW, w.before _ s = true := fun w h => atoms_spec (ws := Cond.code yX1_canMeet cX1_canMeet 5 (some .boolean) :: AW) B.pre w (List.mem_cons_of_mem _ h)
  have hown : s.vm.findClass RX1 = some m.cls := findClass_of_methodNamed B.named
  have hlocks := B.notSynchronized
  have hl := lv_entry ([.ref h0, .long v, .long w]) (n := 5) (Nat.le_of_ble_eq_true rfl)
  rw [lg_entry_eq]
  generalize (lg_sl ([.ref h0, .long v, .long w]) ++ List.replicate (5 - (lg_sl ([.ref h0, .long v, .long w])).length) Slot.unset).toArray = ls at hl ⊢
  have hl : lv_has ls 5 [(0, .ref h0), (1, .long v), (3, .long w)] := hl
  refine lv_aload_n hx hb dX1_canMeet_0 rfl (lv_at hl 0 rfl) ?_
  refine lv_lload_n hx hb dX1_canMeet_1 rfl (lv_at hl 1 rfl) ?_
  refine p_V (C := RX1) (rest := []) hx hb hml hown hts (m_X1_isInfinite l D h0 n v) q261 q263 q2 q24 q264 rfl nX1_isInfinite ⟨Nat.le_of_ble_eq_true rfl, Nat.le_of_ble_eq_true rfl⟩ hl.1 rfl rfl (Nat.le_of_ble_eq_true rfl) dX1_canMeet_2 ⟨Nat.zero_le _, Nat.zero_le _⟩ soPS_bl (va_recv hK hP (ci := 2) (q0 := 0) rfl rfl) (soPS_go hP hK hA) ?_
  refine c_if_eq (tgt := 22) hx hb dX1_canMeet_5 (by decide) (fun h1 => ?_) (fun h1 => ?_)
  · skip
    refine lv_iconst (v := 1) hx hb dX1_canMeet_22 (by decide) ?_
    refine lv_goto (tgt := 27) hx hb dX1_canMeet_23 (by decide) ?_
    exact W.zret (v := (1 : Int32)) hx hb hr rfl (fun t ht hW => pq_i (by rw [sX1_canMeet, if_pos h1]) ht) nil_free dX1_canMeet_27
  · skip
    refine lv_aload_n hx hb dX1_canMeet_8 rfl (lv_at hl 0 rfl) ?_
    refine lv_lload_n hx hb dX1_canMeet_9 rfl (lv_at hl 2 rfl) ?_
    refine p_V (C := RX1) (rest := []) hx hb hml hown hts (m_X1_isInfinite l D h0 n w) q261 q263 q2 q24 q264 rfl nX1_isInfinite ⟨Nat.le_of_ble_eq_true rfl, Nat.le_of_ble_eq_true rfl⟩ hl.1 rfl rfl (Nat.le_of_ble_eq_true rfl) dX1_canMeet_10 ⟨Nat.zero_le _, Nat.zero_le _⟩ soPS_bl (va_recv hK hP (ci := 2) (q0 := 0) rfl rfl) (soPS_go hP hK hA) ?_
    refine c_if_eq (tgt := 22) hx hb dX1_canMeet_13 (by decide) (fun h2 => ?_) (fun h2 => ?_)
    · skip
      refine lv_iconst (v := 1) hx hb dX1_canMeet_22 (by decide) ?_
      refine lv_goto (tgt := 27) hx hb dX1_canMeet_23 (by decide) ?_
      exact W.zret (v := (1 : Int32)) hx hb hr rfl (fun t ht hW => pq_i (by rw [sX1_canMeet, if_neg h1, if_pos h2]) ht) nil_free dX1_canMeet_27
    · skip
      refine lv_lload_n hx hb dX1_canMeet_16 rfl (lv_at hl 1 rfl) ?_
      refine lv_lload_n hx hb dX1_canMeet_17 rfl (lv_at hl 2 rfl) ?_
      refine c_lcmp_ne (tgt := 26) hx hb dX1_canMeet_18 dX1_canMeet_19 (by decide) (fun h3 => ?_) (fun h3 => ?_)
      · skip
        refine lv_iconst (v := 0) hx hb dX1_canMeet_26 (by decide) ?_
        exact W.zret (v := (0 : Int32)) hx hb hr rfl (fun t ht hW => pq_i (by rw [sX1_canMeet, if_neg h1, if_neg h2, if_neg h3]) ht) nil_free dX1_canMeet_27
      · skip
        refine lv_iconst (v := 1) hx hb dX1_canMeet_22 (by decide) ?_
        refine lv_goto (tgt := 27) hx hb dX1_canMeet_23 (by decide) ?_
        exact W.zret (v := (1 : Int32)) hx hb hr rfl (fun t ht hW => pq_i (by rw [sX1_canMeet, if_neg h1, if_neg h2, if_pos h3]) ht) nil_free dX1_canMeet_27
