def sX2_fromBits (n : Bool) (v : Int64) : Int64 := if (psNar n) = 0 then v else v.toInt32.toInt64
theorem nX2_fromBits : yX2_fromBits.cls ≠ "java/lang/invoke/MethodHandle" ∧ yX2_fromBits.cls ≠ "java/lang/invoke/VarHandle" ∧ (parseMethodDescriptor yX2_fromBits.desc).map (fun d => d.parameters.length) = some 1 := by decide +kernel
set_option maxHeartbeats 4000000 in
set_option maxRecDepth 100000 in
theorem m_X2_fromBits_P (l : Launch) (D : va_G) (h0 : Nat) (n : Bool) (v : Int64) : PM l yX2_fromBits cX2_fromBits 3 (some .long) 0 [.ref h0, .long v] (soPS D h0 n) (.long (sX2_fromBits n v)) := by
  refine Met.ofW (cc := cX2_fromBits) (maxL := 3) (ret := (some .long)) (by decide) rfl ?_
  intro p e s m args below meth c s₁ B hml hv
  obtain ⟨rfl, hP, hK, hA⟩ := hv
  have hx := B.exec
  have hb := B.bytes
  have hr := B.returns
  have hts : ∀ w ∈ AW, w.before _ s = true := fun w h => atoms_spec (ws := Cond.code yX2_fromBits cX2_fromBits 3 (some .long) :: AW) B.pre w (List.mem_cons_of_mem _ h)
  have hown : s.vm.findClass RX2 = some m.cls := findClass_of_methodNamed B.named
  have hlocks := B.notSynchronized
  have hl := lv_entry ([.ref h0, .long v]) (n := 3) (Nat.le_of_ble_eq_true rfl)
  rw [lg_entry_eq]
  generalize (lg_sl ([.ref h0, .long v]) ++ List.replicate (3 - (lg_sl ([.ref h0, .long v])).length) Slot.unset).toArray = ls at hl ⊢
  have hl : lv_has ls 3 [(0, .ref h0), (1, .long v)] := hl
  refine lv_aload_n hx hb dX2_fromBits_0 rfl (lv_at hl 0 rfl) ?_
  refine va_get (v := .int (psNar n)) (C := RX1) (T := TX1) (N := 9) (ci := 2) hx hb hts inX1 hown hK hP 0 rfl rfl 0 (by decide) (hts _ q55) (fun _ h => h) rfl dX2_fromBits_1 ?_
  refine c_if_eq (tgt := 13) hx hb dX2_fromBits_4 (by decide) (fun h1 => ?_) (fun h1 => ?_)
  · skip
    refine lv_lload_n hx hb dX2_fromBits_13 rfl (lv_at hl 1 rfl) ?_
    exact W.lret hx hb hr (fun t ht hW => pq_l (by rw [sX2_fromBits, if_pos h1]) ht) nil_free dX2_fromBits_14
  · skip
    refine lv_lload_n hx hb dX2_fromBits_7 rfl (lv_at hl 1 rfl) ?_
    refine lv_l2i hx hb dX2_fromBits_8 rfl ?_
    refine lv_i2l hx hb dX2_fromBits_9 rfl ?_
    refine lv_goto (tgt := 14) hx hb dX2_fromBits_10 (by decide) ?_
    exact W.lret hx hb hr (fun t ht hW => pq_l (by rw [sX2_fromBits, if_neg h1]) ht) nil_free dX2_fromBits_14
set_option maxHeartbeats 4000000 in
set_option maxRecDepth 100000 in
theorem m_X2_fromBits_W (l : Launch) (D : va_G) (h0 : Nat) (n : Bool) (v : Int64) : PM l yX2_fromBits cX2_fromBits 3 (some .long) 0 [.ref h0, .long v] (soWS D h0 n) (.long (sX2_fromBits n v)) := by
  refine Met.ofW (cc := cX2_fromBits) (maxL := 3) (ret := (some .long)) (by decide) rfl ?_
  intro p e s m args below meth c s₁ B hml hv
  obtain ⟨rfl, hP, hK, hA⟩ := hv
  have hx := B.exec
  have hb := B.bytes
  have hr := B.returns
  have hts : ∀ w ∈ AW, w.before _ s = true := fun w h => atoms_spec (ws := Cond.code yX2_fromBits cX2_fromBits 3 (some .long) :: AW) B.pre w (List.mem_cons_of_mem _ h)
  have hown : s.vm.findClass RX2 = some m.cls := findClass_of_methodNamed B.named
  have hlocks := B.notSynchronized
  have hl := lv_entry ([.ref h0, .long v]) (n := 3) (Nat.le_of_ble_eq_true rfl)
  rw [lg_entry_eq]
  generalize (lg_sl ([.ref h0, .long v]) ++ List.replicate (3 - (lg_sl ([.ref h0, .long v])).length) Slot.unset).toArray = ls at hl ⊢
  have hl : lv_has ls 3 [(0, .ref h0), (1, .long v)] := hl
  refine lv_aload_n hx hb dX2_fromBits_0 rfl (lv_at hl 0 rfl) ?_
  refine va_get (v := .int (psNar n)) (C := RX3) (T := TX3) (N := 1) (ci := 3) hx hb hts inX3 hown hK hP 0 rfl rfl 0 (by decide) (hts _ q55) (fun _ h => h) rfl dX2_fromBits_1 ?_
  refine c_if_eq (tgt := 13) hx hb dX2_fromBits_4 (by decide) (fun h1 => ?_) (fun h1 => ?_)
  · skip
    refine lv_lload_n hx hb dX2_fromBits_13 rfl (lv_at hl 1 rfl) ?_
    exact W.lret hx hb hr (fun t ht hW => pq_l (by rw [sX2_fromBits, if_pos h1]) ht) nil_free dX2_fromBits_14
  · skip
    refine lv_lload_n hx hb dX2_fromBits_7 rfl (lv_at hl 1 rfl) ?_
    refine lv_l2i hx hb dX2_fromBits_8 rfl ?_
    refine lv_i2l hx hb dX2_fromBits_9 rfl ?_
    refine lv_goto (tgt := 14) hx hb dX2_fromBits_10 (by decide) ?_
    exact W.lret hx hb hr (fun t ht hW => pq_l (by rw [sX2_fromBits, if_neg h1]) ht) nil_free dX2_fromBits_14
def sX3_isNumber (n : Bool) (v : Int64) : Int32 := (1 : Int32)
theorem nX3_isNumber : yX3_isNumber.cls ≠ "java/lang/invoke/MethodHandle" ∧ yX3_isNumber.cls ≠ "java/lang/invoke/VarHandle" ∧ (parseMethodDescriptor yX3_isNumber.desc).map (fun d => d.parameters.length) = some 1 := by decide +kernel
set_option maxHeartbeats 4000000 in
set_option maxRecDepth 100000 in
theorem m_X3_isNumber (l : Launch) (D : va_G) (h0 : Nat) (n : Bool) (v : Int64) : PM l yX3_isNumber cX3_isNumber 3 (some .boolean) 0 [.ref h0, .long v] (soWS D h0 n) (.int (sX3_isNumber n v)) := by
  refine Met.ofW (cc := cX3_isNumber) (maxL := 3) (ret := (some .boolean)) (by decide) rfl ?_
  intro p e s m args below meth c s₁ B hml hv
  obtain ⟨rfl, hP, hK, hA⟩ := hv
  have hx := B.exec
  have hb := B.bytes
  have hr := B.returns
  have hts : ∀ w ∈ AW, w.before _ s = true := fun w h => atoms_spec (ws := Cond.code yX3_isNumber cX3_isNumber 3 (some .boolean) :: AW) B.pre w (List.mem_cons_of_mem _ h)
  have hown : s.vm.findClass RX3 = some m.cls := findClass_of_methodNamed B.named
  have hlocks := B.notSynchronized
  have hl := lv_entry ([.ref h0, .long v]) (n := 3) (Nat.le_of_ble_eq_true rfl)
  rw [lg_entry_eq]
  generalize (lg_sl ([.ref h0, .long v]) ++ List.replicate (3 - (lg_sl ([.ref h0, .long v])).length) Slot.unset).toArray = ls at hl ⊢
  have hl : lv_has ls 3 [(0, .ref h0), (1, .long v)] := hl
  refine lv_iconst (v := 1) hx hb dX3_isNumber_0 (by decide) ?_
  exact W.zret (v := (1 : Int32)) hx hb hr rfl (fun t ht hW => pq_i (rfl) ht) nil_free dX3_isNumber_1
def sX3_rank (n : Bool) (v : Int64) : Int64 := v
theorem nX3_rank : yX3_rank.cls ≠ "java/lang/invoke/MethodHandle" ∧ yX3_rank.cls ≠ "java/lang/invoke/VarHandle" ∧ (parseMethodDescriptor yX3_rank.desc).map (fun d => d.parameters.length) = some 1 := by decide +kernel
set_option maxHeartbeats 4000000 in
set_option maxRecDepth 100000 in
theorem m_X3_rank (l : Launch) (D : va_G) (h0 : Nat) (n : Bool) (v : Int64) : PM l yX3_rank cX3_rank 3 (some .long) 0 [.ref h0, .long v] (soWS D h0 n) (.long (sX3_rank n v)) := by
  refine Met.ofW (cc := cX3_rank) (maxL := 3) (ret := (some .long)) (by decide) rfl ?_
  intro p e s m args below meth c s₁ B hml hv
  obtain ⟨rfl, hP, hK, hA⟩ := hv
  have hx := B.exec
  have hb := B.bytes
  have hr := B.returns
  have hts : ∀ w ∈ AW, w.before _ s = true := fun w h => atoms_spec (ws := Cond.code yX3_rank cX3_rank 3 (some .long) :: AW) B.pre w (List.mem_cons_of_mem _ h)
  have hown : s.vm.findClass RX3 = some m.cls := findClass_of_methodNamed B.named
  have hlocks := B.notSynchronized
  have hl := lv_entry ([.ref h0, .long v]) (n := 3) (Nat.le_of_ble_eq_true rfl)
  rw [lg_entry_eq]
  generalize (lg_sl ([.ref h0, .long v]) ++ List.replicate (3 - (lg_sl ([.ref h0, .long v])).length) Slot.unset).toArray = ls at hl ⊢
  have hl : lv_has ls 3 [(0, .ref h0), (1, .long v)] := hl
  refine lv_lload_n hx hb dX3_rank_0 rfl (lv_at hl 1 rfl) ?_
  exact W.lret hx hb hr (fun t ht hW => pq_l (rfl) ht) nil_free dX3_rank_1
def sX3_turn (n : Bool) (v : Int64) : Int64 := (sX2_fromBits n (-v))
theorem nX3_turn : yX3_turn.cls ≠ "java/lang/invoke/MethodHandle" ∧ yX3_turn.cls ≠ "java/lang/invoke/VarHandle" ∧ (parseMethodDescriptor yX3_turn.desc).map (fun d => d.parameters.length) = some 1 := by decide +kernel
set_option maxHeartbeats 4000000 in
set_option maxRecDepth 100000 in
theorem m_X3_turn (l : Launch) (D : va_G) (h0 : Nat) (n : Bool) (v : Int64) : PM l yX3_turn cX3_turn 3 (some .long) 1 [.ref h0, .long v] (soWS D h0 n) (.long (sX3_turn n v)) := by
  refine Met.ofW (cc := cX3_turn) (maxL := 3) (ret := (some .long)) (by decide) rfl ?_
  intro p e s m args below meth c s₁ B hml hv
  obtain ⟨rfl, hP, hK, hA⟩ := hv
  have hx := B.exec
  have hb := B.bytes
  have hr := B.returns
  have hts : ∀ w ∈ AW, w.before _ s = true := fun w h => atoms_spec (ws := Cond.code yX3_turn cX3_turn 3 (some .long) :: AW) B.pre w (List.mem_cons_of_mem _ h)
  have hown : s.vm.findClass RX3 = some m.cls := findClass_of_methodNamed B.named
  have hlocks := B.notSynchronized
  have hl := lv_entry ([.ref h0, .long v]) (n := 3) (Nat.le_of_ble_eq_true rfl)
  rw [lg_entry_eq]
  generalize (lg_sl ([.ref h0, .long v]) ++ List.replicate (3 - (lg_sl ([.ref h0, .long v])).length) Slot.unset).toArray = ls at hl ⊢
  have hl : lv_has ls 3 [(0, .ref h0), (1, .long v)] := hl
  refine lv_aload_n hx hb dX3_turn_0 rfl (lv_at hl 0 rfl) ?_
  refine lv_lload_n hx hb dX3_turn_1 rfl (lv_at hl 1 rfl) ?_
  refine lv_lneg hx hb dX3_turn_2 ?_
  refine p_U (n := 1) (C := RX3) (owner := RX2) (rest := []) hx hb hml hown hts (m_X2_fromBits_W l D h0 n (-v)) q297 q298 q300 q232 q22 q236 (va_Decl.of (hts _ q232) (hts _ q236)) (by decide +kernel) ⟨Nat.le_of_ble_eq_true rfl, Nat.le_of_ble_eq_true rfl⟩ hl.1 rfl rfl (Nat.le_of_ble_eq_true rfl) dX3_turn_3 ⟨Nat.zero_le _, Nat.zero_le _⟩ soWS_bl (va_recv hK hP (ci := 3) (q0 := 0) rfl rfl) (soWS_go hP hK hA) ?_
  exact W.lret hx hb hr (fun t ht hW => pq_l (rfl) ht) nil_free dX3_turn_6
def sX3_size (n : Bool) (v : Int64) : Int64 := if v < (0 : Int64) then (sX3_turn n v) else v
theorem nX3_size : yX3_size.cls ≠ "java/lang/invoke/MethodHandle" ∧ yX3_size.cls ≠ "java/lang/invoke/VarHandle" ∧ (parseMethodDescriptor yX3_size.desc).map (fun d => d.parameters.length) = some 1 := by decide +kernel
set_option maxHeartbeats 4000000 in
set_option maxRecDepth 100000 in
theorem m_X3_size (l : Launch) (D : va_G) (h0 : Nat) (n : Bool) (v : Int64) : PM l yX3_size cX3_size 3 (some .long) 2 [.ref h0, .long v] (soWS D h0 n) (.long (sX3_size n v)) := by
  refine Met.ofW (cc := cX3_size) (maxL := 3) (ret := (some .long)) (by decide) rfl ?_
  intro p e s m args below meth c s₁ B hml hv
  obtain ⟨rfl, hP, hK, hA⟩ := hv
  have hx := B.exec
  have hb := B.bytes
  have hr := B.returns
  have hts : ∀ w ∈ AW, w.before _ s = true := fun w h => atoms_spec (ws := Cond.code yX3_size cX3_size 3 (some .long) :: AW) B.pre w (List.mem_cons_of_mem _ h)
  have hown : s.vm.findClass RX3 = some m.cls := findClass_of_methodNamed B.named
  have hlocks := B.notSynchronized
  have hl := lv_entry ([.ref h0, .long v]) (n := 3) (Nat.le_of_ble_eq_true rfl)
  rw [lg_entry_eq]
  generalize (lg_sl ([.ref h0, .long v]) ++ List.replicate (3 - (lg_sl ([.ref h0, .long v])).length) Slot.unset).toArray = ls at hl ⊢
  have hl : lv_has ls 3 [(0, .ref h0), (1, .long v)] := hl
  refine lv_lload_n hx hb dX3_size_0 rfl (lv_at hl 1 rfl) ?_
  refine lv_lconst (v := 0) hx hb dX3_size_1 (by decide) ?_
  refine c_lcmp_ge (tgt := 14) hx hb dX3_size_2 dX3_size_3 (by decide) (fun h1 => ?_) (fun h1 => ?_)
  · skip
    refine lv_lload_n hx hb dX3_size_14 rfl (lv_at hl 1 rfl) ?_
    exact W.lret hx hb hr (fun t ht hW => pq_l (by rw [sX3_size, if_neg h1]) ht) nil_free dX3_size_15
  · skip
    refine lv_aload_n hx hb dX3_size_6 rfl (lv_at hl 0 rfl) ?_
    refine lv_lload_n hx hb dX3_size_7 rfl (lv_at hl 1 rfl) ?_
    refine p_V (C := RX3) (rest := []) hx hb hml hown hts (m_X3_turn l D h0 n v) q318 q319 q320 q23 q321 rfl nX3_turn ⟨Nat.le_of_ble_eq_true rfl, Nat.le_of_ble_eq_true rfl⟩ hl.1 rfl rfl (Nat.le_of_ble_eq_true rfl) dX3_size_8 ⟨Nat.zero_le _, Nat.zero_le _⟩ soWS_bl (va_recv hK hP (ci := 3) (q0 := 0) rfl rfl) (soWS_go hP hK hA) ?_
    refine lv_goto (tgt := 15) hx hb dX3_size_11 (by decide) ?_
    exact W.lret hx hb hr (fun t ht hW => pq_l (by rw [sX3_size, if_pos h1]) ht) nil_free dX3_size_15
def sX3_down (n : Bool) (v : Int64) : Int64 := v
theorem nX3_down : yX3_down.cls ≠ "java/lang/invoke/MethodHandle" ∧ yX3_down.cls ≠ "java/lang/invoke/VarHandle" ∧ (parseMethodDescriptor yX3_down.desc).map (fun d => d.parameters.length) = some 1 := by decide +kernel
set_option maxHeartbeats 4000000 in
set_option maxRecDepth 100000 in
theorem m_X3_down (l : Launch) (D : va_G) (h0 : Nat) (n : Bool) (v : Int64) : PM l yX3_down cX3_down 3 (some .long) 0 [.ref h0, .long v] (soWS D h0 n) (.long (sX3_down n v)) := by
  refine Met.ofW (cc := cX3_down) (maxL := 3) (ret := (some .long)) (by decide) rfl ?_
  intro p e s m args below meth c s₁ B hml hv
  obtain ⟨rfl, hP, hK, hA⟩ := hv
  have hx := B.exec
  have hb := B.bytes
  have hr := B.returns
  have hts : ∀ w ∈ AW, w.before _ s = true := fun w h => atoms_spec (ws := Cond.code yX3_down cX3_down 3 (some .long) :: AW) B.pre w (List.mem_cons_of_mem _ h)
  have hown : s.vm.findClass RX3 = some m.cls := findClass_of_methodNamed B.named
  have hlocks := B.notSynchronized
  have hl := lv_entry ([.ref h0, .long v]) (n := 3) (Nat.le_of_ble_eq_true rfl)
  rw [lg_entry_eq]
  generalize (lg_sl ([.ref h0, .long v]) ++ List.replicate (3 - (lg_sl ([.ref h0, .long v])).length) Slot.unset).toArray = ls at hl ⊢
  have hl : lv_has ls 3 [(0, .ref h0), (1, .long v)] := hl
  refine lv_lload_n hx hb dX3_down_0 rfl (lv_at hl 1 rfl) ?_
  exact W.lret hx hb hr (fun t ht hW => pq_l (rfl) ht) nil_free dX3_down_1
def sX3_up (n : Bool) (v : Int64) : Int64 := v
theorem nX3_up : yX3_up.cls ≠ "java/lang/invoke/MethodHandle" ∧ yX3_up.cls ≠ "java/lang/invoke/VarHandle" ∧ (parseMethodDescriptor yX3_up.desc).map (fun d => d.parameters.length) = some 1 := by decide +kernel
set_option maxHeartbeats 4000000 in
set_option maxRecDepth 100000 in
theorem m_X3_up (l : Launch) (D : va_G) (h0 : Nat) (n : Bool) (v : Int64) : PM l yX3_up cX3_up 3 (some .long) 0 [.ref h0, .long v] (soWS D h0 n) (.long (sX3_up n v)) := by
  refine Met.ofW (cc := cX3_up) (maxL := 3) (ret := (some .long)) (by decide) rfl ?_
  intro p e s m args below meth c s₁ B hml hv
  obtain ⟨rfl, hP, hK, hA⟩ := hv
  have hx := B.exec
  have hb := B.bytes
  have hr := B.returns
  have hts : ∀ w ∈ AW, w.before _ s = true := fun w h => atoms_spec (ws := Cond.code yX3_up cX3_up 3 (some .long) :: AW) B.pre w (List.mem_cons_of_mem _ h)
  have hown : s.vm.findClass RX3 = some m.cls := findClass_of_methodNamed B.named
  have hlocks := B.notSynchronized
  have hl := lv_entry ([.ref h0, .long v]) (n := 3) (Nat.le_of_ble_eq_true rfl)
  rw [lg_entry_eq]
  generalize (lg_sl ([.ref h0, .long v]) ++ List.replicate (3 - (lg_sl ([.ref h0, .long v])).length) Slot.unset).toArray = ls at hl ⊢
  have hl : lv_has ls 3 [(0, .ref h0), (1, .long v)] := hl
  refine lv_lload_n hx hb dX3_up_0 rfl (lv_at hl 1 rfl) ?_
  exact W.lret hx hb hr (fun t ht hW => pq_l (rfl) ht) nil_free dX3_up_1
def sX3_near (n : Bool) (v : Int64) : Int64 := v
theorem nX3_near : yX3_near.cls ≠ "java/lang/invoke/MethodHandle" ∧ yX3_near.cls ≠ "java/lang/invoke/VarHandle" ∧ (parseMethodDescriptor yX3_near.desc).map (fun d => d.parameters.length) = some 1 := by decide +kernel
set_option maxHeartbeats 4000000 in
set_option maxRecDepth 100000 in
theorem m_X3_near (l : Launch) (D : va_G) (h0 : Nat) (n : Bool) (v : Int64) : PM l yX3_near cX3_near 3 (some .long) 0 [.ref h0, .long v] (soWS D h0 n) (.long (sX3_near n v)) := by
  refine Met.ofW (cc := cX3_near) (maxL := 3) (ret := (some .long)) (by decide) rfl ?_
  intro p e s m args below meth c s₁ B hml hv
  obtain ⟨rfl, hP, hK, hA⟩ := hv
  have hx := B.exec
  have hb := B.bytes
  have hr := B.returns
  have hts : ∀ w ∈ AW, w.before _ s = true := fun w h => atoms_spec (ws := Cond.code yX3_near cX3_near 3 (some .long) :: AW) B.pre w (List.mem_cons_of_mem _ h)
  have hown : s.vm.findClass RX3 = some m.cls := findClass_of_methodNamed B.named
  have hlocks := B.notSynchronized
  have hl := lv_entry ([.ref h0, .long v]) (n := 3) (Nat.le_of_ble_eq_true rfl)
  rw [lg_entry_eq]
  generalize (lg_sl ([.ref h0, .long v]) ++ List.replicate (3 - (lg_sl ([.ref h0, .long v])).length) Slot.unset).toArray = ls at hl ⊢
  have hl : lv_has ls 3 [(0, .ref h0), (1, .long v)] := hl
  refine lv_lload_n hx hb dX3_near_0 rfl (lv_at hl 1 rfl) ?_
  exact W.lret hx hb hr (fun t ht hW => pq_l (rfl) ht) nil_free dX3_near_1
def sX3_sign (n : Bool) (v : Int64) : Int64 := if v = (0 : Int64) then (0 : Int64) else if (0 : Int64) < v then (1 : Int64) else (-1 : Int64)
theorem nX3_sign : yX3_sign.cls ≠ "java/lang/invoke/MethodHandle" ∧ yX3_sign.cls ≠ "java/lang/invoke/VarHandle" ∧ (parseMethodDescriptor yX3_sign.desc).map (fun d => d.parameters.length) = some 1 := by decide +kernel
set_option maxHeartbeats 4000000 in
set_option maxRecDepth 100000 in
theorem m_X3_sign (l : Launch) (D : va_G) (h0 : Nat) (n : Bool) (v : Int64) : PM l yX3_sign cX3_sign 3 (some .long) 0 [.ref h0, .long v] (soWS D h0 n) (.long (sX3_sign n v)) := by
  refine Met.ofW (cc := cX3_sign) (maxL := 3) (ret := (some .long)) (by decide) rfl ?_
  intro p e s m args below meth c s₁ B hml hv
  obtain ⟨rfl, hP, hK, hA⟩ := hv
  have hx := B.exec
  have hb := B.bytes
  have hr := B.returns
  have hts : ∀ w ∈ AW, w.before _ s = true := fun w h => atoms_spec (ws := Cond.code yX3_sign cX3_sign 3 (some .long) :: AW) B.pre w (List.mem_cons_of_mem _ h)
  have hown : s.vm.findClass RX3 = some m.cls := findClass_of_methodNamed B.named
  have hlocks := B.notSynchronized
  have hl := lv_entry ([.ref h0, .long v]) (n := 3) (Nat.le_of_ble_eq_true rfl)
  rw [lg_entry_eq]
  generalize (lg_sl ([.ref h0, .long v]) ++ List.replicate (3 - (lg_sl ([.ref h0, .long v])).length) Slot.unset).toArray = ls at hl ⊢
  have hl : lv_has ls 3 [(0, .ref h0), (1, .long v)] := hl
  refine lv_lload_n hx hb dX3_sign_0 rfl (lv_at hl 1 rfl) ?_
  refine lv_lconst (v := 0) hx hb dX3_sign_1 (by decide) ?_
  refine c_lcmp_ne (tgt := 8) hx hb dX3_sign_2 dX3_sign_3 (by decide) (fun h1 => ?_) (fun h1 => ?_)
  · skip
    refine lv_lload_n hx hb dX3_sign_8 rfl (lv_at hl 1 rfl) ?_
    refine lv_lconst (v := 0) hx hb dX3_sign_9 (by decide) ?_
    refine c_lcmp_le (tgt := 18) hx hb dX3_sign_10 dX3_sign_11 (by decide) (fun h2 => ?_) (fun h2 => ?_)
    · skip
      refine lv_ldc2 hx hb hown (hts _ q310) dX3_sign_18 ?_
      exact W.lret hx hb hr (fun t ht hW => pq_l (by rw [sX3_sign, if_neg h1, if_neg h2]) ht) nil_free dX3_sign_21
    · skip
      refine lv_lconst (v := 1) hx hb dX3_sign_14 (by decide) ?_
      refine lv_goto (tgt := 21) hx hb dX3_sign_15 (by decide) ?_
      exact W.lret hx hb hr (fun t ht hW => pq_l (by rw [sX3_sign, if_neg h1, if_pos h2]) ht) nil_free dX3_sign_21
  · skip
    refine lv_lconst (v := 0) hx hb dX3_sign_6 (by decide) ?_
    exact W.lret hx hb hr (fun t ht hW => pq_l (by rw [sX3_sign, if_pos h1]) ht) nil_free dX3_sign_7
def sX3_like (n : Bool) (v : Int64) (w : Int64) : Int64 := if w < (0 : Int64) then (sX3_turn n (sX3_size n v)) else (sX3_size n v)
theorem nX3_like : yX3_like.cls ≠ "java/lang/invoke/MethodHandle" ∧ yX3_like.cls ≠ "java/lang/invoke/VarHandle" ∧ (parseMethodDescriptor yX3_like.desc).map (fun d => d.parameters.length) = some 2 := by decide +kernel
set_option maxHeartbeats 4000000 in
set_option maxRecDepth 100000 in
theorem m_X3_like (l : Launch) (D : va_G) (h0 : Nat) (n : Bool) (v : Int64) (w : Int64) : PM l yX3_like cX3_like 5 (some .long) 3 [.ref h0, .long v, .long w] (soWS D h0 n) (.long (sX3_like n v w)) := by
  refine Met.ofW (cc := cX3_like) (maxL := 5) (ret := (some .long)) (by decide) rfl ?_
  intro p e s m args below meth c s₁ B hml hv
  obtain ⟨rfl, hP, hK, hA⟩ := hv
  have hx := B.exec
  have hb := B.bytes
  have hr := B.returns
  have hts : ∀ w ∈ AW, w.before _ s = true := fun w h => atoms_spec (ws := Cond.code yX3_like cX3_like 5 (some .long) :: AW) B.pre w (List.mem_cons_of_mem _ h)
  have hown : s.vm.findClass RX3 = some m.cls := findClass_of_methodNamed B.named
  have hlocks := B.notSynchronized
  have hl := lv_entry ([.ref h0, .long v, .long w]) (n := 5) (Nat.le_of_ble_eq_true rfl)
  rw [lg_entry_eq]
  generalize (lg_sl ([.ref h0, .long v, .long w]) ++ List.replicate (5 - (lg_sl ([.ref h0, .long v, .long w])).length) Slot.unset).toArray = ls at hl ⊢
  have hl : lv_has ls 5 [(0, .ref h0), (1, .long v), (3, .long w)] := hl
  refine lv_lload_n hx hb dX3_like_0 rfl (lv_at hl 2 rfl) ?_
  refine lv_lconst (v := 0) hx hb dX3_like_1 (by decide) ?_
  refine c_lcmp_ge (tgt := 18) hx hb dX3_like_2 dX3_like_3 (by decide) (fun h1 => ?_) (fun h1 => ?_)
  · skip
    refine lv_aload_n hx hb dX3_like_18 rfl (lv_at hl 0 rfl) ?_
    refine lv_lload_n hx hb dX3_like_19 rfl (lv_at hl 1 rfl) ?_
    refine p_V (C := RX3) (rest := []) hx hb hml hown hts (m_X3_size l D h0 n v) q484 q316 q793 q23 q317 rfl nX3_size ⟨Nat.le_of_ble_eq_true rfl, Nat.le_of_ble_eq_true rfl⟩ hl.1 rfl rfl (Nat.le_of_ble_eq_true rfl) dX3_like_20 ⟨Nat.zero_le _, Nat.zero_le _⟩ soWS_bl (va_recv hK hP (ci := 3) (q0 := 0) rfl rfl) (soWS_go hP hK hA) ?_
    exact W.lret hx hb hr (fun t ht hW => pq_l (by rw [sX3_like, if_neg h1]) ht) nil_free dX3_like_23
  · skip
    refine lv_aload_n hx hb dX3_like_6 rfl (lv_at hl 0 rfl) ?_
    refine lv_aload_n hx hb dX3_like_7 rfl (lv_at hl 0 rfl) ?_
    refine lv_lload_n hx hb dX3_like_8 rfl (lv_at hl 1 rfl) ?_
    refine p_V (C := RX3) (rest := [.ref h0]) hx hb hml hown hts (m_X3_size l D h0 n v) q484 q316 q793 q23 q317 rfl nX3_size ⟨Nat.le_of_ble_eq_true rfl, Nat.le_of_ble_eq_true rfl⟩ hl.1 rfl rfl (Nat.le_of_ble_eq_true rfl) dX3_like_9 ⟨Nat.zero_le _, Nat.zero_le _⟩ soWS_bl (va_recv hK hP (ci := 3) (q0 := 0) rfl rfl) (soWS_go hP hK hA) ?_
    refine p_V (C := RX3) (rest := []) hx hb hml hown hts (m_X3_turn l D h0 n (sX3_size n v)) q318 q319 q320 q23 q321 rfl nX3_turn ⟨Nat.le_of_ble_eq_true rfl, Nat.le_of_ble_eq_true rfl⟩ hl.1 rfl rfl (Nat.le_of_ble_eq_true rfl) dX3_like_12 ⟨Nat.zero_le _, Nat.zero_le _⟩ soWS_bl (va_recv hK hP (ci := 3) (q0 := 0) rfl rfl) (soWS_go hP hK hA) ?_
    refine lv_goto (tgt := 23) hx hb dX3_like_15 (by decide) ?_
    exact W.lret hx hb hr (fun t ht hW => pq_l (by rw [sX3_like, if_pos h1]) ht) nil_free dX3_like_23
def sX3_step (n : Bool) (v : Int64) (k : Int32) : Int64 := if 0 < k then ((v >>> (k.toInt64 &&& 63)) <<< (k.toInt64 &&& 63)) else v
theorem nX3_step : yX3_step.cls ≠ "java/lang/invoke/MethodHandle" ∧ yX3_step.cls ≠ "java/lang/invoke/VarHandle" ∧ (parseMethodDescriptor yX3_step.desc).map (fun d => d.parameters.length) = some 2 := by decide +kernel
set_option maxHeartbeats 4000000 in
set_option maxRecDepth 100000 in
theorem m_X3_step (l : Launch) (D : va_G) (h0 : Nat) (n : Bool) (v : Int64) (k : Int32) : PM l yX3_step cX3_step 4 (some .long) 0 [.ref h0, .long v, .int k] (soWS D h0 n) (.long (sX3_step n v k)) := by
  refine Met.ofW (cc := cX3_step) (maxL := 4) (ret := (some .long)) (by decide) rfl ?_
  intro p e s m args below meth c s₁ B hml hv
  obtain ⟨rfl, hP, hK, hA⟩ := hv
  have hx := B.exec
  have hb := B.bytes
  have hr := B.returns
  have hts : ∀ w ∈ AW, w.before _ s = true := fun w h => atoms_spec (ws := Cond.code yX3_step cX3_step 4 (some .long) :: AW) B.pre w (List.mem_cons_of_mem _ h)
  have hown : s.vm.findClass RX3 = some m.cls := findClass_of_methodNamed B.named
  have hlocks := B.notSynchronized
  have hl := lv_entry ([.ref h0, .long v, .int k]) (n := 4) (Nat.le_of_ble_eq_true rfl)
  rw [lg_entry_eq]
  generalize (lg_sl ([.ref h0, .long v, .int k]) ++ List.replicate (4 - (lg_sl ([.ref h0, .long v, .int k])).length) Slot.unset).toArray = ls at hl ⊢
  have hl : lv_has ls 4 [(0, .ref h0), (1, .long v), (3, .int k)] := hl
  refine lv_iload_n hx hb dX3_step_0 rfl (lv_at hl 2 rfl) ?_
  refine c_if_gt (tgt := 8) hx hb dX3_step_1 (by decide) (fun h1 => ?_) (fun h1 => ?_)
  · skip
    refine lv_lload_n hx hb dX3_step_8 rfl (lv_at hl 1 rfl) ?_
    refine lv_iload_n hx hb dX3_step_9 rfl (lv_at hl 2 rfl) ?_
    refine lv_lshr hx hb dX3_step_10 rfl ?_
    refine lv_iload_n hx hb dX3_step_11 rfl (lv_at hl 2 rfl) ?_
    refine lv_lshl hx hb dX3_step_12 rfl ?_
    exact W.lret hx hb hr (fun t ht hW => pq_l (by rw [sX3_step, if_pos h1]) ht) nil_free dX3_step_13
  · skip
    refine lv_lload_n hx hb dX3_step_4 rfl (lv_at hl 1 rfl) ?_
    refine lv_goto (tgt := 13) hx hb dX3_step_5 (by decide) ?_
    exact W.lret hx hb hr (fun t ht hW => pq_l (by rw [sX3_step, if_neg h1]) ht) nil_free dX3_step_13
def sX3_canMeet (n : Bool) (v : Int64) (w : Int64) : Int32 := (1 : Int32)
theorem nX3_canMeet : yX3_canMeet.cls ≠ "java/lang/invoke/MethodHandle" ∧ yX3_canMeet.cls ≠ "java/lang/invoke/VarHandle" ∧ (parseMethodDescriptor yX3_canMeet.desc).map (fun d => d.parameters.length) = some 2 := by decide +kernel
set_option maxHeartbeats 4000000 in
set_option maxRecDepth 100000 in
theorem m_X3_canMeet (l : Launch) (D : va_G) (h0 : Nat) (n : Bool) (v : Int64) (w : Int64) : PM l yX3_canMeet cX3_canMeet 5 (some .boolean) 0 [.ref h0, .long v, .long w] (soWS D h0 n) (.int (sX3_canMeet n v w)) := by
  refine Met.ofW (cc := cX3_canMeet) (maxL := 5) (ret := (some .boolean)) (by decide) rfl ?_
  intro p e s m args below meth c s₁ B hml hv
  obtain ⟨rfl, hP, hK, hA⟩ := hv
  have hx := B.exec
  have hb := B.bytes
  have hr := B.returns
  have hts : ∀ w ∈ AW, w.before _ s = true := fun w h => atoms_spec (ws := Cond.code yX3_canMeet cX3_canMeet 5 (some .boolean) :: AW) B.pre w (List.mem_cons_of_mem _ h)
  have hown : s.vm.findClass RX3 = some m.cls := findClass_of_methodNamed B.named
  have hlocks := B.notSynchronized
  have hl := lv_entry ([.ref h0, .long v, .long w]) (n := 5) (Nat.le_of_ble_eq_true rfl)
  rw [lg_entry_eq]
  generalize (lg_sl ([.ref h0, .long v, .long w]) ++ List.replicate (5 - (lg_sl ([.ref h0, .long v, .long w])).length) Slot.unset).toArray = ls at hl ⊢
  have hl : lv_has ls 5 [(0, .ref h0), (1, .long v), (3, .long w)] := hl
  refine lv_iconst (v := 1) hx hb dX3_canMeet_0 (by decide) ?_
  exact W.zret (v := (1 : Int32)) hx hb hr rfl (fun t ht hW => pq_i (rfl) ht) nil_free dX3_canMeet_1
def sX3_meet (n : Bool) (v : Int64) (w : Int64) : Int64 := ((sX2_fromBits n (v + w)) >>> ((1 : Int32).toInt64 &&& 63))
theorem nX3_meet : yX3_meet.cls ≠ "java/lang/invoke/MethodHandle" ∧ yX3_meet.cls ≠ "java/lang/invoke/VarHandle" ∧ (parseMethodDescriptor yX3_meet.desc).map (fun d => d.parameters.length) = some 2 := by decide +kernel
set_option maxHeartbeats 4000000 in
set_option maxRecDepth 100000 in
theorem m_X3_meet (l : Launch) (D : va_G) (h0 : Nat) (n : Bool) (v : Int64) (w : Int64) : PM l yX3_meet cX3_meet 5 (some .long) 1 [.ref h0, .long v, .long w] (soWS D h0 n) (.long (sX3_meet n v w)) := by
  refine Met.ofW (cc := cX3_meet) (maxL := 5) (ret := (some .long)) (by decide) rfl ?_
  intro p e s m args below meth c s₁ B hml hv
  obtain ⟨rfl, hP, hK, hA⟩ := hv
  have hx := B.exec
  have hb := B.bytes
  have hr := B.returns
  have hts : ∀ w ∈ AW, w.before _ s = true := fun w h => atoms_spec (ws := Cond.code yX3_meet cX3_meet 5 (some .long) :: AW) B.pre w (List.mem_cons_of_mem _ h)
  have hown : s.vm.findClass RX3 = some m.cls := findClass_of_methodNamed B.named
  have hlocks := B.notSynchronized
  have hl := lv_entry ([.ref h0, .long v, .long w]) (n := 5) (Nat.le_of_ble_eq_true rfl)
  rw [lg_entry_eq]
  generalize (lg_sl ([.ref h0, .long v, .long w]) ++ List.replicate (5 - (lg_sl ([.ref h0, .long v, .long w])).length) Slot.unset).toArray = ls at hl ⊢
  have hl : lv_has ls 5 [(0, .ref h0), (1, .long v), (3, .long w)] := hl
  refine lv_aload_n hx hb dX3_meet_0 rfl (lv_at hl 0 rfl) ?_
  refine lv_lload_n hx hb dX3_meet_1 rfl (lv_at hl 1 rfl) ?_
  refine lv_lload_n hx hb dX3_meet_2 rfl (lv_at hl 2 rfl) ?_
  refine lv_ladd hx hb dX3_meet_3 ?_
  refine p_U (n := 1) (C := RX3) (owner := RX2) (rest := []) hx hb hml hown hts (m_X2_fromBits_W l D h0 n (v + w)) q297 q298 q300 q232 q22 q236 (va_Decl.of (hts _ q232) (hts _ q236)) (by decide +kernel) ⟨Nat.le_of_ble_eq_true rfl, Nat.le_of_ble_eq_true rfl⟩ hl.1 rfl rfl (Nat.le_of_ble_eq_true rfl) dX3_meet_4 ⟨Nat.zero_le _, Nat.zero_le _⟩ soWS_bl (va_recv hK hP (ci := 3) (q0 := 0) rfl rfl) (soWS_go hP hK hA) ?_
  refine lv_iconst (v := 1) hx hb dX3_meet_7 (by decide) ?_
  refine lv_lshr hx hb dX3_meet_8 rfl ?_
  exact W.lret hx hb hr (fun t ht hW => pq_l (rfl) ht) nil_free dX3_meet_9
def sX3_part (n : Bool) (v : Int64) : Int64 := (0 : Int64)
theorem nX3_part : yX3_part.cls ≠ "java/lang/invoke/MethodHandle" ∧ yX3_part.cls ≠ "java/lang/invoke/VarHandle" ∧ (parseMethodDescriptor yX3_part.desc).map (fun d => d.parameters.length) = some 1 := by decide +kernel
set_option maxHeartbeats 4000000 in
set_option maxRecDepth 100000 in
theorem m_X3_part (l : Launch) (D : va_G) (h0 : Nat) (n : Bool) (v : Int64) : PM l yX3_part cX3_part 3 (some .long) 0 [.ref h0, .long v] (soWS D h0 n) (.long (sX3_part n v)) := by
  refine Met.ofW (cc := cX3_part) (maxL := 3) (ret := (some .long)) (by decide) rfl ?_
  intro p e s m args below meth c s₁ B hml hv
  obtain ⟨rfl, hP, hK, hA⟩ := hv
  have hx := B.exec
  have hb := B.bytes
  have hr := B.returns
  have hts : ∀ w ∈ AW, w.before _ s = true := fun w h => atoms_spec (ws := Cond.code yX3_part cX3_part 3 (some .long) :: AW) B.pre w (List.mem_cons_of_mem _ h)
  have hown : s.vm.findClass RX3 = some m.cls := findClass_of_methodNamed B.named
  have hlocks := B.notSynchronized
  have hl := lv_entry ([.ref h0, .long v]) (n := 3) (Nat.le_of_ble_eq_true rfl)
  rw [lg_entry_eq]
  generalize (lg_sl ([.ref h0, .long v]) ++ List.replicate (3 - (lg_sl ([.ref h0, .long v])).length) Slot.unset).toArray = ls at hl ⊢
  have hl : lv_has ls 3 [(0, .ref h0), (1, .long v)] := hl
  refine lv_lconst (v := 0) hx hb dX3_part_0 (by decide) ?_
  exact W.lret hx hb hr (fun t ht hW => pq_l (rfl) ht) nil_free dX3_part_1
def sX3_change (n : Bool) (v : Int64) (w : Int64) : Int64 := (sX2_fromBits n (w - v))
theorem nX3_change : yX3_change.cls ≠ "java/lang/invoke/MethodHandle" ∧ yX3_change.cls ≠ "java/lang/invoke/VarHandle" ∧ (parseMethodDescriptor yX3_change.desc).map (fun d => d.parameters.length) = some 2 := by decide +kernel
set_option maxHeartbeats 4000000 in
set_option maxRecDepth 100000 in
theorem m_X3_change (l : Launch) (D : va_G) (h0 : Nat) (n : Bool) (v : Int64) (w : Int64) : PM l yX3_change cX3_change 5 (some .long) 1 [.ref h0, .long v, .long w] (soWS D h0 n) (.long (sX3_change n v w)) := by
  refine Met.ofW (cc := cX3_change) (maxL := 5) (ret := (some .long)) (by decide) rfl ?_
  intro p e s m args below meth c s₁ B hml hv
  obtain ⟨rfl, hP, hK, hA⟩ := hv
  have hx := B.exec
  have hb := B.bytes
  have hr := B.returns
  have hts : ∀ w ∈ AW, w.before _ s = true := fun w h => atoms_spec (ws := Cond.code yX3_change cX3_change 5 (some .long) :: AW) B.pre w (List.mem_cons_of_mem _ h)
  have hown : s.vm.findClass RX3 = some m.cls := findClass_of_methodNamed B.named
  have hlocks := B.notSynchronized
  have hl := lv_entry ([.ref h0, .long v, .long w]) (n := 5) (Nat.le_of_ble_eq_true rfl)
  rw [lg_entry_eq]
  generalize (lg_sl ([.ref h0, .long v, .long w]) ++ List.replicate (5 - (lg_sl ([.ref h0, .long v, .long w])).length) Slot.unset).toArray = ls at hl ⊢
  have hl : lv_has ls 5 [(0, .ref h0), (1, .long v), (3, .long w)] := hl
  refine lv_aload_n hx hb dX3_change_0 rfl (lv_at hl 0 rfl) ?_
  refine lv_lload_n hx hb dX3_change_1 rfl (lv_at hl 2 rfl) ?_
  refine lv_lload_n hx hb dX3_change_2 rfl (lv_at hl 1 rfl) ?_
  refine lv_lsub hx hb dX3_change_3 ?_
  refine p_U (n := 1) (C := RX3) (owner := RX2) (rest := []) hx hb hml hown hts (m_X2_fromBits_W l D h0 n (w - v)) q297 q298 q300 q232 q22 q236 (va_Decl.of (hts _ q232) (hts _ q236)) (by decide +kernel) ⟨Nat.le_of_ble_eq_true rfl, Nat.le_of_ble_eq_true rfl⟩ hl.1 rfl rfl (Nat.le_of_ble_eq_true rfl) dX3_change_4 ⟨Nat.zero_le _, Nat.zero_le _⟩ soWS_bl (va_recv hK hP (ci := 3) (q0 := 0) rfl rfl) (soWS_go hP hK hA) ?_
  exact W.lret hx hb hr (fun t ht hW => pq_l (rfl) ht) nil_free dX3_change_7
def sX3_withHalf (n : Bool) (v : Int64) (w : Int64) : Int64 := (sX2_fromBits n (v + (w >>> ((1 : Int32).toInt64 &&& 63))))
theorem nX3_withHalf : yX3_withHalf.cls ≠ "java/lang/invoke/MethodHandle" ∧ yX3_withHalf.cls ≠ "java/lang/invoke/VarHandle" ∧ (parseMethodDescriptor yX3_withHalf.desc).map (fun d => d.parameters.length) = some 2 := by decide +kernel
set_option maxHeartbeats 4000000 in
set_option maxRecDepth 100000 in
theorem m_X3_withHalf (l : Launch) (D : va_G) (h0 : Nat) (n : Bool) (v : Int64) (w : Int64) : PM l yX3_withHalf cX3_withHalf 5 (some .long) 1 [.ref h0, .long v, .long w] (soWS D h0 n) (.long (sX3_withHalf n v w)) := by
  refine Met.ofW (cc := cX3_withHalf) (maxL := 5) (ret := (some .long)) (by decide) rfl ?_
  intro p e s m args below meth c s₁ B hml hv
  obtain ⟨rfl, hP, hK, hA⟩ := hv
  have hx := B.exec
  have hb := B.bytes
  have hr := B.returns
  have hts : ∀ w ∈ AW, w.before _ s = true := fun w h => atoms_spec (ws := Cond.code yX3_withHalf cX3_withHalf 5 (some .long) :: AW) B.pre w (List.mem_cons_of_mem _ h)
  have hown : s.vm.findClass RX3 = some m.cls := findClass_of_methodNamed B.named
  have hlocks := B.notSynchronized
  have hl := lv_entry ([.ref h0, .long v, .long w]) (n := 5) (Nat.le_of_ble_eq_true rfl)
  rw [lg_entry_eq]
  generalize (lg_sl ([.ref h0, .long v, .long w]) ++ List.replicate (5 - (lg_sl ([.ref h0, .long v, .long w])).length) Slot.unset).toArray = ls at hl ⊢
  have hl : lv_has ls 5 [(0, .ref h0), (1, .long v), (3, .long w)] := hl
  refine lv_aload_n hx hb dX3_withHalf_0 rfl (lv_at hl 0 rfl) ?_
  refine lv_lload_n hx hb dX3_withHalf_1 rfl (lv_at hl 1 rfl) ?_
  refine lv_lload_n hx hb dX3_withHalf_2 rfl (lv_at hl 2 rfl) ?_
  refine lv_iconst (v := 1) hx hb dX3_withHalf_3 (by decide) ?_
  refine lv_lshr hx hb dX3_withHalf_4 rfl ?_
  refine lv_ladd hx hb dX3_withHalf_5 ?_
  refine p_U (n := 1) (C := RX3) (owner := RX2) (rest := []) hx hb hml hown hts (m_X2_fromBits_W l D h0 n (v + (w >>> ((1 : Int32).toInt64 &&& 63)))) q297 q298 q300 q232 q22 q236 (va_Decl.of (hts _ q232) (hts _ q236)) (by decide +kernel) ⟨Nat.le_of_ble_eq_true rfl, Nat.le_of_ble_eq_true rfl⟩ hl.1 rfl rfl (Nat.le_of_ble_eq_true rfl) dX3_withHalf_6 ⟨Nat.zero_le _, Nat.zero_le _⟩ soWS_bl (va_recv hK hP (ci := 3) (q0 := 0) rfl rfl) (soWS_go hP hK hA) ?_
  exact W.lret hx hb hr (fun t ht hW => pq_l (rfl) ht) nil_free dX3_withHalf_9
def sX2_greater_P (n : Bool) (v : Int64) (w : Int64) : Int64 := if (sX1_rank n v) < (sX1_rank n w) then w else v
theorem nX2_greater : yX2_greater.cls ≠ "java/lang/invoke/MethodHandle" ∧ yX2_greater.cls ≠ "java/lang/invoke/VarHandle" ∧ (parseMethodDescriptor yX2_greater.desc).map (fun d => d.parameters.length) = some 2 := by decide +kernel
set_option maxHeartbeats 4000000 in
set_option maxRecDepth 100000 in
theorem m_X2_greater_P (l : Launch) (D : va_G) (h0 : Nat) (n : Bool) (v : Int64) (w : Int64) : PM l yX2_greater cX2_greater 5 (some .long) 2 [.ref h0, .long v, .long w] (soPS D h0 n) (.long (sX2_greater_P n v w)) := by
  refine Met.ofW (cc := cX2_greater) (maxL := 5) (ret := (some .long)) (by decide) rfl ?_
  intro p e s m args below meth c s₁ B hml hv
  obtain ⟨rfl, hP, hK, hA⟩ := hv
  have hx := B.exec
  have hb := B.bytes
  have hr := B.returns
  have hts : ∀ w ∈ AW, w.before _ s = true := fun w h => atoms_spec (ws := Cond.code yX2_greater cX2_greater 5 (some .long) :: AW) B.pre w (List.mem_cons_of_mem _ h)
  have hown : s.vm.findClass RX2 = some m.cls := findClass_of_methodNamed B.named
  have hlocks := B.notSynchronized
  have hl := lv_entry ([.ref h0, .long v, .long w]) (n := 5) (Nat.le_of_ble_eq_true rfl)
  rw [lg_entry_eq]
  generalize (lg_sl ([.ref h0, .long v, .long w]) ++ List.replicate (5 - (lg_sl ([.ref h0, .long v, .long w])).length) Slot.unset).toArray = ls at hl ⊢
  have hl : lv_has ls 5 [(0, .ref h0), (1, .long v), (3, .long w)] := hl
  refine lv_aload_n hx hb dX2_greater_0 rfl (lv_at hl 0 rfl) ?_
  refine lv_lload_n hx hb dX2_greater_1 rfl (lv_at hl 1 rfl) ?_
  refine p_U (n := 1) (C := RX1) (owner := RX2) (rest := []) hx hb hml hown hts (m_X1_rank l D h0 n v) q328 q330 q331 q332 q24 q333 (va_Decl.abs (hA _ (by decide))) (by decide +kernel) ⟨Nat.le_of_ble_eq_true rfl, Nat.le_of_ble_eq_true rfl⟩ hl.1 rfl rfl (Nat.le_of_ble_eq_true rfl) dX2_greater_2 ⟨Nat.zero_le _, Nat.zero_le _⟩ soPS_bl (va_recv hK hP (ci := 2) (q0 := 0) rfl rfl) (soPS_go hP hK hA) ?_
  refine lv_aload_n hx hb dX2_greater_5 rfl (lv_at hl 0 rfl) ?_
  refine lv_lload_n hx hb dX2_greater_6 rfl (lv_at hl 2 rfl) ?_
  refine p_U (n := 1) (C := RX1) (owner := RX2) (rest := [.long (sX1_rank n v)]) hx hb hml hown hts (m_X1_rank l D h0 n w) q328 q330 q331 q332 q24 q333 (va_Decl.abs (hA _ (by decide))) (by decide +kernel) ⟨Nat.le_of_ble_eq_true rfl, Nat.le_of_ble_eq_true rfl⟩ hl.1 rfl rfl (Nat.le_of_ble_eq_true rfl) dX2_greater_7 ⟨Nat.zero_le _, Nat.zero_le _⟩ soPS_bl (va_recv hK hP (ci := 2) (q0 := 0) rfl rfl) (soPS_go hP hK hA) ?_
  refine c_lcmp_lt (tgt := 18) hx hb dX2_greater_10 dX2_greater_11 (by decide) (fun h1 => ?_) (fun h1 => ?_)
  · skip
    refine lv_lload_n hx hb dX2_greater_18 rfl (lv_at hl 2 rfl) ?_
    exact W.lret hx hb hr (fun t ht hW => pq_l (by rw [sX2_greater_P, if_pos h1]) ht) nil_free dX2_greater_19
  · skip
    refine lv_lload_n hx hb dX2_greater_14 rfl (lv_at hl 1 rfl) ?_
    refine lv_goto (tgt := 19) hx hb dX2_greater_15 (by decide) ?_
    exact W.lret hx hb hr (fun t ht hW => pq_l (by rw [sX2_greater_P, if_neg h1]) ht) nil_free dX2_greater_19
def sX2_greater_W (n : Bool) (v : Int64) (w : Int64) : Int64 := if (sX3_rank n v) < (sX3_rank n w) then w else v
set_option maxHeartbeats 4000000 in
set_option maxRecDepth 100000 in
theorem m_X2_greater_W (l : Launch) (D : va_G) (h0 : Nat) (n : Bool) (v : Int64) (w : Int64) : PM l yX2_greater cX2_greater 5 (some .long) 2 [.ref h0, .long v, .long w] (soWS D h0 n) (.long (sX2_greater_W n v w)) := by
  refine Met.ofW (cc := cX2_greater) (maxL := 5) (ret := (some .long)) (by decide) rfl ?_
  intro p e s m args below meth c s₁ B hml hv
  obtain ⟨rfl, hP, hK, hA⟩ := hv
  have hx := B.exec
  have hb := B.bytes
  have hr := B.returns
  have hts : ∀ w ∈ AW, w.before _ s = true := fun w h => atoms_spec (ws := Cond.code yX2_greater cX2_greater 5 (some .long) :: AW) B.pre w (List.mem_cons_of_mem _ h)
  have hown : s.vm.findClass RX2 = some m.cls := findClass_of_methodNamed B.named
  have hlocks := B.notSynchronized
  have hl := lv_entry ([.ref h0, .long v, .long w]) (n := 5) (Nat.le_of_ble_eq_true rfl)
  rw [lg_entry_eq]
  generalize (lg_sl ([.ref h0, .long v, .long w]) ++ List.replicate (5 - (lg_sl ([.ref h0, .long v, .long w])).length) Slot.unset).toArray = ls at hl ⊢
  have hl : lv_has ls 5 [(0, .ref h0), (1, .long v), (3, .long w)] := hl
  refine lv_aload_n hx hb dX2_greater_0 rfl (lv_at hl 0 rfl) ?_
  refine lv_lload_n hx hb dX2_greater_1 rfl (lv_at hl 1 rfl) ?_
  refine p_U (n := 1) (C := RX3) (owner := RX2) (rest := []) hx hb hml hown hts (m_X3_rank l D h0 n v) q328 q330 q334 q335 q23 q336 (va_Decl.abs (hA _ (by decide))) (by decide +kernel) ⟨Nat.le_of_ble_eq_true rfl, Nat.le_of_ble_eq_true rfl⟩ hl.1 rfl rfl (Nat.le_of_ble_eq_true rfl) dX2_greater_2 ⟨Nat.zero_le _, Nat.zero_le _⟩ soWS_bl (va_recv hK hP (ci := 3) (q0 := 0) rfl rfl) (soWS_go hP hK hA) ?_
  refine lv_aload_n hx hb dX2_greater_5 rfl (lv_at hl 0 rfl) ?_
  refine lv_lload_n hx hb dX2_greater_6 rfl (lv_at hl 2 rfl) ?_
  refine p_U (n := 1) (C := RX3) (owner := RX2) (rest := [.long (sX3_rank n v)]) hx hb hml hown hts (m_X3_rank l D h0 n w) q328 q330 q334 q335 q23 q336 (va_Decl.abs (hA _ (by decide))) (by decide +kernel) ⟨Nat.le_of_ble_eq_true rfl, Nat.le_of_ble_eq_true rfl⟩ hl.1 rfl rfl (Nat.le_of_ble_eq_true rfl) dX2_greater_7 ⟨Nat.zero_le _, Nat.zero_le _⟩ soWS_bl (va_recv hK hP (ci := 3) (q0 := 0) rfl rfl) (soWS_go hP hK hA) ?_
  refine c_lcmp_lt (tgt := 18) hx hb dX2_greater_10 dX2_greater_11 (by decide) (fun h1 => ?_) (fun h1 => ?_)
  · skip
    refine lv_lload_n hx hb dX2_greater_18 rfl (lv_at hl 2 rfl) ?_
    exact W.lret hx hb hr (fun t ht hW => pq_l (by rw [sX2_greater_W, if_pos h1]) ht) nil_free dX2_greater_19
  · skip
    refine lv_lload_n hx hb dX2_greater_14 rfl (lv_at hl 1 rfl) ?_
    refine lv_goto (tgt := 19) hx hb dX2_greater_15 (by decide) ?_
    exact W.lret hx hb hr (fun t ht hW => pq_l (by rw [sX2_greater_W, if_neg h1]) ht) nil_free dX2_greater_19
def sX2_lesser_P (n : Bool) (v : Int64) (w : Int64) : Int64 := if (sX1_rank n w) < (sX1_rank n v) then w else v
theorem nX2_lesser : yX2_lesser.cls ≠ "java/lang/invoke/MethodHandle" ∧ yX2_lesser.cls ≠ "java/lang/invoke/VarHandle" ∧ (parseMethodDescriptor yX2_lesser.desc).map (fun d => d.parameters.length) = some 2 := by decide +kernel
set_option maxHeartbeats 4000000 in
set_option maxRecDepth 100000 in
theorem m_X2_lesser_P (l : Launch) (D : va_G) (h0 : Nat) (n : Bool) (v : Int64) (w : Int64) : PM l yX2_lesser cX2_lesser 5 (some .long) 2 [.ref h0, .long v, .long w] (soPS D h0 n) (.long (sX2_lesser_P n v w)) := by
  refine Met.ofW (cc := cX2_lesser) (maxL := 5) (ret := (some .long)) (by decide) rfl ?_
  intro p e s m args below meth c s₁ B hml hv
  obtain ⟨rfl, hP, hK, hA⟩ := hv
  have hx := B.exec
  have hb := B.bytes
  have hr := B.returns
  have hts : ∀ w ∈ AW, w.before _ s = true := fun w h => atoms_spec (ws := Cond.code yX2_lesser cX2_lesser 5 (some .long) :: AW) B.pre w (List.mem_cons_of_mem _ h)
  have hown : s.vm.findClass RX2 = some m.cls := findClass_of_methodNamed B.named
  have hlocks := B.notSynchronized
  have hl := lv_entry ([.ref h0, .long v, .long w]) (n := 5) (Nat.le_of_ble_eq_true rfl)
  rw [lg_entry_eq]
  generalize (lg_sl ([.ref h0, .long v, .long w]) ++ List.replicate (5 - (lg_sl ([.ref h0, .long v, .long w])).length) Slot.unset).toArray = ls at hl ⊢
  have hl : lv_has ls 5 [(0, .ref h0), (1, .long v), (3, .long w)] := hl
  refine lv_aload_n hx hb dX2_lesser_0 rfl (lv_at hl 0 rfl) ?_
  refine lv_lload_n hx hb dX2_lesser_1 rfl (lv_at hl 1 rfl) ?_
  refine p_U (n := 1) (C := RX1) (owner := RX2) (rest := []) hx hb hml hown hts (m_X1_rank l D h0 n v) q328 q330 q331 q332 q24 q333 (va_Decl.abs (hA _ (by decide))) (by decide +kernel) ⟨Nat.le_of_ble_eq_true rfl, Nat.le_of_ble_eq_true rfl⟩ hl.1 rfl rfl (Nat.le_of_ble_eq_true rfl) dX2_lesser_2 ⟨Nat.zero_le _, Nat.zero_le _⟩ soPS_bl (va_recv hK hP (ci := 2) (q0 := 0) rfl rfl) (soPS_go hP hK hA) ?_
  refine lv_aload_n hx hb dX2_lesser_5 rfl (lv_at hl 0 rfl) ?_
  refine lv_lload_n hx hb dX2_lesser_6 rfl (lv_at hl 2 rfl) ?_
  refine p_U (n := 1) (C := RX1) (owner := RX2) (rest := [.long (sX1_rank n v)]) hx hb hml hown hts (m_X1_rank l D h0 n w) q328 q330 q331 q332 q24 q333 (va_Decl.abs (hA _ (by decide))) (by decide +kernel) ⟨Nat.le_of_ble_eq_true rfl, Nat.le_of_ble_eq_true rfl⟩ hl.1 rfl rfl (Nat.le_of_ble_eq_true rfl) dX2_lesser_7 ⟨Nat.zero_le _, Nat.zero_le _⟩ soPS_bl (va_recv hK hP (ci := 2) (q0 := 0) rfl rfl) (soPS_go hP hK hA) ?_
  refine c_lcmp_gt (tgt := 18) hx hb dX2_lesser_10 dX2_lesser_11 (by decide) (fun h1 => ?_) (fun h1 => ?_)
  · skip
    refine lv_lload_n hx hb dX2_lesser_18 rfl (lv_at hl 2 rfl) ?_
    exact W.lret hx hb hr (fun t ht hW => pq_l (by rw [sX2_lesser_P, if_pos h1]) ht) nil_free dX2_lesser_19
  · skip
    refine lv_lload_n hx hb dX2_lesser_14 rfl (lv_at hl 1 rfl) ?_
    refine lv_goto (tgt := 19) hx hb dX2_lesser_15 (by decide) ?_
    exact W.lret hx hb hr (fun t ht hW => pq_l (by rw [sX2_lesser_P, if_neg h1]) ht) nil_free dX2_lesser_19
def sX2_lesser_W (n : Bool) (v : Int64) (w : Int64) : Int64 := if (sX3_rank n w) < (sX3_rank n v) then w else v
set_option maxHeartbeats 4000000 in
set_option maxRecDepth 100000 in
theorem m_X2_lesser_W (l : Launch) (D : va_G) (h0 : Nat) (n : Bool) (v : Int64) (w : Int64) : PM l yX2_lesser cX2_lesser 5 (some .long) 2 [.ref h0, .long v, .long w] (soWS D h0 n) (.long (sX2_lesser_W n v w)) := by
  refine Met.ofW (cc := cX2_lesser) (maxL := 5) (ret := (some .long)) (by decide) rfl ?_
  intro p e s m args below meth c s₁ B hml hv
  obtain ⟨rfl, hP, hK, hA⟩ := hv
  have hx := B.exec
  have hb := B.bytes
  have hr := B.returns
  have hts : ∀ w ∈ AW, w.before _ s = true := fun w h => atoms_spec (ws := Cond.code yX2_lesser cX2_lesser 5 (some .long) :: AW) B.pre w (List.mem_cons_of_mem _ h)
  have hown : s.vm.findClass RX2 = some m.cls := findClass_of_methodNamed B.named
  have hlocks := B.notSynchronized
  have hl := lv_entry ([.ref h0, .long v, .long w]) (n := 5) (Nat.le_of_ble_eq_true rfl)
  rw [lg_entry_eq]
  generalize (lg_sl ([.ref h0, .long v, .long w]) ++ List.replicate (5 - (lg_sl ([.ref h0, .long v, .long w])).length) Slot.unset).toArray = ls at hl ⊢
  have hl : lv_has ls 5 [(0, .ref h0), (1, .long v), (3, .long w)] := hl
  refine lv_aload_n hx hb dX2_lesser_0 rfl (lv_at hl 0 rfl) ?_
  refine lv_lload_n hx hb dX2_lesser_1 rfl (lv_at hl 1 rfl) ?_
  refine p_U (n := 1) (C := RX3) (owner := RX2) (rest := []) hx hb hml hown hts (m_X3_rank l D h0 n v) q328 q330 q334 q335 q23 q336 (va_Decl.abs (hA _ (by decide))) (by decide +kernel) ⟨Nat.le_of_ble_eq_true rfl, Nat.le_of_ble_eq_true rfl⟩ hl.1 rfl rfl (Nat.le_of_ble_eq_true rfl) dX2_lesser_2 ⟨Nat.zero_le _, Nat.zero_le _⟩ soWS_bl (va_recv hK hP (ci := 3) (q0 := 0) rfl rfl) (soWS_go hP hK hA) ?_
  refine lv_aload_n hx hb dX2_lesser_5 rfl (lv_at hl 0 rfl) ?_
  refine lv_lload_n hx hb dX2_lesser_6 rfl (lv_at hl 2 rfl) ?_
  refine p_U (n := 1) (C := RX3) (owner := RX2) (rest := [.long (sX3_rank n v)]) hx hb hml hown hts (m_X3_rank l D h0 n w) q328 q330 q334 q335 q23 q336 (va_Decl.abs (hA _ (by decide))) (by decide +kernel) ⟨Nat.le_of_ble_eq_true rfl, Nat.le_of_ble_eq_true rfl⟩ hl.1 rfl rfl (Nat.le_of_ble_eq_true rfl) dX2_lesser_7 ⟨Nat.zero_le _, Nat.zero_le _⟩ soWS_bl (va_recv hK hP (ci := 3) (q0 := 0) rfl rfl) (soWS_go hP hK hA) ?_
  refine c_lcmp_gt (tgt := 18) hx hb dX2_lesser_10 dX2_lesser_11 (by decide) (fun h1 => ?_) (fun h1 => ?_)
  · skip
    refine lv_lload_n hx hb dX2_lesser_18 rfl (lv_at hl 2 rfl) ?_
    exact W.lret hx hb hr (fun t ht hW => pq_l (by rw [sX2_lesser_W, if_pos h1]) ht) nil_free dX2_lesser_19
  · skip
    refine lv_lload_n hx hb dX2_lesser_14 rfl (lv_at hl 1 rfl) ?_
    refine lv_goto (tgt := 19) hx hb dX2_lesser_15 (by decide) ?_
    exact W.lret hx hb hr (fun t ht hW => pq_l (by rw [sX2_lesser_W, if_neg h1]) ht) nil_free dX2_lesser_19
