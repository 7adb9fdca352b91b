theorem nX2_init : yX2_init.cls ≠ "java/lang/invoke/MethodHandle" ∧ yX2_init.cls ≠ "java/lang/invoke/VarHandle" ∧ (parseMethodDescriptor yX2_init.desc).map (fun d => d.parameters.length) = some 1 := by decide +kernel
set_option maxHeartbeats 4000000 in
set_option maxRecDepth 100000 in
theorem m_X2_init_X11 (l : Launch) (D : va_G) (h0 : Nat) : IM l yX2_init cX2_init 2 none 1 [.ref h0, .int (1 : Int32)] (kPre D h0 2 [.int 0, .int 0, .long 0, .long 0, .int 0, .int 0, .long 0, .long 0, .long 0]) D (fun q => q = h0) none [(h0, .inr (2, [.int 1, .int 0, .long 0, .long 0, .int 0, .int 0, .long 0, .long 0, .long 0]))] := by
  refine Met.ofW (cc := cX2_init) (maxL := 2) (ret := none) (by decide) rfl ?_
  intro p e s m args below meth c s₁ B hml hv
  obtain ⟨rfl, hP, hK⟩ := hv
  have hx := B.exec
  have hb := B.bytes
  have hr := B.returns
  have hts : ∀ w ∈ AW, w.before _ s = true := fun w h => atoms_spec (ws := Cond.code yX2_init cX2_init 2 none :: AW) B.pre w (List.mem_cons_of_mem _ h)
  have hown : s.vm.findClass RX2 = some m.cls := findClass_of_methodNamed B.named
  have hin : meth.name = "<init>" := (name_of_methodNamed B.named B.method).1
  have hlocks := B.notSynchronized
  have hS : va_S (fun q => q = h0) s.heap s.heap [] := va_S.rf
  have hD : va_D (fun q => q = h0) [(h0, .inr (2, [.int 0, .int 0, .long 0, .long 0, .int 0, .int 0, .long 0, .long 0, .long 0]))] := bal_D
  have hl := lv_entry ([.ref h0, .int (1 : Int32)]) (n := 2) (Nat.le_of_ble_eq_true rfl)
  rw [lg_entry_eq]
  generalize (lg_sl ([.ref h0, .int (1 : Int32)]) ++ List.replicate (2 - (lg_sl ([.ref h0, .int (1 : Int32)])).length) Slot.unset).toArray = ls at hl ⊢
  have hl : lv_has ls 2 [(0, .ref h0), (1, .int (1 : Int32))] := hl
  refine lv_aload_n hx hb dX2_init_0 rfl (lv_at hl 0 rfl) ?_
  refine W.objInit hx hb hown (hts _ q54) (hts _ q42) (hts _ q43) rfl (by rw [hml]; exact hl.1) rfl dX2_init_1 (Nat.le_of_ble_eq_true rfl) (Nat.le_of_ble_eq_true rfl) ?_
  refine lv_aload_n hx hb dX2_init_4 rfl (lv_at hl 0 rfl) ?_
  refine lv_iload_n hx hb dX2_init_5 rfl (lv_at hl 1 rfl) ?_
  refine va_putF (C := RX1) (T := TX1) (N := 9) (ci := 2) (ty := .boolean) hx hb hts inX1 tyX1 tyX1_ok nmX1 hown hK hP hD hS 0 rfl rfl 0 (by decide) (hts _ q55) (fun _ h => h) rfl hin rfl rfl rfl rfl (Nat.le_of_ble_eq_true rfl) dX2_init_6 (fun H locs hP hD hS => ?_)
  have hP : va_P D vwCl [(h0, .inr (2, [.int (1 : Int32), .int 0, .long 0, .long 0, .int 0, .int 0, .long 0, .long 0, .long 0]))] H := hP
  have hD : va_D (fun q => q = h0) [(h0, .inr (2, [.int (1 : Int32), .int 0, .long 0, .long 0, .int 0, .int 0, .long 0, .long 0, .long 0]))] := hD
  exact W.vret hx hb hr (fun t ht hW => ⟨rfl, (by rw [ht]; exact hP), hS.F ht⟩) hS.2.2 dX2_init_9
set_option maxHeartbeats 4000000 in
set_option maxRecDepth 100000 in
theorem m_X2_init_X10 (l : Launch) (D : va_G) (h0 : Nat) : IM l yX2_init cX2_init 2 none 1 [.ref h0, .int (0 : Int32)] (kPre D h0 2 [.int 0, .int 0, .long 0, .long 0, .int 0, .int 0, .long 0, .long 0, .long 0]) D (fun q => q = h0) none [(h0, .inr (2, [.int 0, .int 0, .long 0, .long 0, .int 0, .int 0, .long 0, .long 0, .long 0]))] := by
  refine Met.ofW (cc := cX2_init) (maxL := 2) (ret := none) (by decide) rfl ?_
  intro p e s m args below meth c s₁ B hml hv
  obtain ⟨rfl, hP, hK⟩ := hv
  have hx := B.exec
  have hb := B.bytes
  have hr := B.returns
  have hts : ∀ w ∈ AW, w.before _ s = true := fun w h => atoms_spec (ws := Cond.code yX2_init cX2_init 2 none :: AW) B.pre w (List.mem_cons_of_mem _ h)
  have hown : s.vm.findClass RX2 = some m.cls := findClass_of_methodNamed B.named
  have hin : meth.name = "<init>" := (name_of_methodNamed B.named B.method).1
  have hlocks := B.notSynchronized
  have hS : va_S (fun q => q = h0) s.heap s.heap [] := va_S.rf
  have hD : va_D (fun q => q = h0) [(h0, .inr (2, [.int 0, .int 0, .long 0, .long 0, .int 0, .int 0, .long 0, .long 0, .long 0]))] := bal_D
  have hl := lv_entry ([.ref h0, .int (0 : Int32)]) (n := 2) (Nat.le_of_ble_eq_true rfl)
  rw [lg_entry_eq]
  generalize (lg_sl ([.ref h0, .int (0 : Int32)]) ++ List.replicate (2 - (lg_sl ([.ref h0, .int (0 : Int32)])).length) Slot.unset).toArray = ls at hl ⊢
  have hl : lv_has ls 2 [(0, .ref h0), (1, .int (0 : Int32))] := hl
  refine lv_aload_n hx hb dX2_init_0 rfl (lv_at hl 0 rfl) ?_
  refine W.objInit hx hb hown (hts _ q54) (hts _ q42) (hts _ q43) rfl (by rw [hml]; exact hl.1) rfl dX2_init_1 (Nat.le_of_ble_eq_true rfl) (Nat.le_of_ble_eq_true rfl) ?_
  refine lv_aload_n hx hb dX2_init_4 rfl (lv_at hl 0 rfl) ?_
  refine lv_iload_n hx hb dX2_init_5 rfl (lv_at hl 1 rfl) ?_
  refine va_putF (C := RX1) (T := TX1) (N := 9) (ci := 2) (ty := .boolean) hx hb hts inX1 tyX1 tyX1_ok nmX1 hown hK hP hD hS 0 rfl rfl 0 (by decide) (hts _ q55) (fun _ h => h) rfl hin rfl rfl rfl rfl (Nat.le_of_ble_eq_true rfl) dX2_init_6 (fun H locs hP hD hS => ?_)
  have hP : va_P D vwCl [(h0, .inr (2, [.int (0 : Int32), .int 0, .long 0, .long 0, .int 0, .int 0, .long 0, .long 0, .long 0]))] H := hP
  have hD : va_D (fun q => q = h0) [(h0, .inr (2, [.int (0 : Int32), .int 0, .long 0, .long 0, .int 0, .int 0, .long 0, .long 0, .long 0]))] := hD
  exact W.vret hx hb hr (fun t ht hW => ⟨rfl, (by rw [ht]; exact hP), hS.F ht⟩) hS.2.2 dX2_init_9
set_option maxHeartbeats 4000000 in
set_option maxRecDepth 100000 in
theorem m_X2_init_X31 (l : Launch) (D : va_G) (h0 : Nat) : IM l yX2_init cX2_init 2 none 1 [.ref h0, .int (1 : Int32)] (kPre D h0 3 [.int 0]) D (fun q => q = h0) none [(h0, .inr (3, [.int 1]))] := by
  refine Met.ofW (cc := cX2_init) (maxL := 2) (ret := none) (by decide) rfl ?_
  intro p e s m args below meth c s₁ B hml hv
  obtain ⟨rfl, hP, hK⟩ := hv
  have hx := B.exec
  have hb := B.bytes
  have hr := B.returns
  have hts : ∀ w ∈ AW, w.before _ s = true := fun w h => atoms_spec (ws := Cond.code yX2_init cX2_init 2 none :: AW) B.pre w (List.mem_cons_of_mem _ h)
  have hown : s.vm.findClass RX2 = some m.cls := findClass_of_methodNamed B.named
  have hin : meth.name = "<init>" := (name_of_methodNamed B.named B.method).1
  have hlocks := B.notSynchronized
  have hS : va_S (fun q => q = h0) s.heap s.heap [] := va_S.rf
  have hD : va_D (fun q => q = h0) [(h0, .inr (3, [.int 0]))] := bal_D
  have hl := lv_entry ([.ref h0, .int (1 : Int32)]) (n := 2) (Nat.le_of_ble_eq_true rfl)
  rw [lg_entry_eq]
  generalize (lg_sl ([.ref h0, .int (1 : Int32)]) ++ List.replicate (2 - (lg_sl ([.ref h0, .int (1 : Int32)])).length) Slot.unset).toArray = ls at hl ⊢
  have hl : lv_has ls 2 [(0, .ref h0), (1, .int (1 : Int32))] := hl
  refine lv_aload_n hx hb dX2_init_0 rfl (lv_at hl 0 rfl) ?_
  refine W.objInit hx hb hown (hts _ q54) (hts _ q42) (hts _ q43) rfl (by rw [hml]; exact hl.1) rfl dX2_init_1 (Nat.le_of_ble_eq_true rfl) (Nat.le_of_ble_eq_true rfl) ?_
  refine lv_aload_n hx hb dX2_init_4 rfl (lv_at hl 0 rfl) ?_
  refine lv_iload_n hx hb dX2_init_5 rfl (lv_at hl 1 rfl) ?_
  refine va_putF (C := RX3) (T := TX3) (N := 1) (ci := 3) (ty := .boolean) hx hb hts inX3 tyX3 tyX3_ok nmX3 hown hK hP hD hS 0 rfl rfl 0 (by decide) (hts _ q55) (fun _ h => h) rfl hin rfl rfl rfl rfl (Nat.le_of_ble_eq_true rfl) dX2_init_6 (fun H locs hP hD hS => ?_)
  have hP : va_P D vwCl [(h0, .inr (3, [.int (1 : Int32)]))] H := hP
  have hD : va_D (fun q => q = h0) [(h0, .inr (3, [.int (1 : Int32)]))] := hD
  exact W.vret hx hb hr (fun t ht hW => ⟨rfl, (by rw [ht]; exact hP), hS.F ht⟩) hS.2.2 dX2_init_9
set_option maxHeartbeats 4000000 in
set_option maxRecDepth 100000 in
theorem m_X2_init_X30 (l : Launch) (D : va_G) (h0 : Nat) : IM l yX2_init cX2_init 2 none 1 [.ref h0, .int (0 : Int32)] (kPre D h0 3 [.int 0]) D (fun q => q = h0) none [(h0, .inr (3, [.int 0]))] := by
  refine Met.ofW (cc := cX2_init) (maxL := 2) (ret := none) (by decide) rfl ?_
  intro p e s m args below meth c s₁ B hml hv
  obtain ⟨rfl, hP, hK⟩ := hv
  have hx := B.exec
  have hb := B.bytes
  have hr := B.returns
  have hts : ∀ w ∈ AW, w.before _ s = true := fun w h => atoms_spec (ws := Cond.code yX2_init cX2_init 2 none :: AW) B.pre w (List.mem_cons_of_mem _ h)
  have hown : s.vm.findClass RX2 = some m.cls := findClass_of_methodNamed B.named
  have hin : meth.name = "<init>" := (name_of_methodNamed B.named B.method).1
  have hlocks := B.notSynchronized
  have hS : va_S (fun q => q = h0) s.heap s.heap [] := va_S.rf
  have hD : va_D (fun q => q = h0) [(h0, .inr (3, [.int 0]))] := bal_D
  have hl := lv_entry ([.ref h0, .int (0 : Int32)]) (n := 2) (Nat.le_of_ble_eq_true rfl)
  rw [lg_entry_eq]
  generalize (lg_sl ([.ref h0, .int (0 : Int32)]) ++ List.replicate (2 - (lg_sl ([.ref h0, .int (0 : Int32)])).length) Slot.unset).toArray = ls at hl ⊢
  have hl : lv_has ls 2 [(0, .ref h0), (1, .int (0 : Int32))] := hl
  refine lv_aload_n hx hb dX2_init_0 rfl (lv_at hl 0 rfl) ?_
  refine W.objInit hx hb hown (hts _ q54) (hts _ q42) (hts _ q43) rfl (by rw [hml]; exact hl.1) rfl dX2_init_1 (Nat.le_of_ble_eq_true rfl) (Nat.le_of_ble_eq_true rfl) ?_
  refine lv_aload_n hx hb dX2_init_4 rfl (lv_at hl 0 rfl) ?_
  refine lv_iload_n hx hb dX2_init_5 rfl (lv_at hl 1 rfl) ?_
  refine va_putF (C := RX3) (T := TX3) (N := 1) (ci := 3) (ty := .boolean) hx hb hts inX3 tyX3 tyX3_ok nmX3 hown hK hP hD hS 0 rfl rfl 0 (by decide) (hts _ q55) (fun _ h => h) rfl hin rfl rfl rfl rfl (Nat.le_of_ble_eq_true rfl) dX2_init_6 (fun H locs hP hD hS => ?_)
  have hP : va_P D vwCl [(h0, .inr (3, [.int (0 : Int32)]))] H := hP
  have hD : va_D (fun q => q = h0) [(h0, .inr (3, [.int (0 : Int32)]))] := hD
  exact W.vret hx hb hr (fun t ht hW => ⟨rfl, (by rw [ht]; exact hP), hS.F ht⟩) hS.2.2 dX2_init_9
theorem nX3_init : yX3_init.cls ≠ "java/lang/invoke/MethodHandle" ∧ yX3_init.cls ≠ "java/lang/invoke/VarHandle" ∧ (parseMethodDescriptor yX3_init.desc).map (fun d => d.parameters.length) = some 1 := by decide +kernel
set_option maxHeartbeats 4000000 in
set_option maxRecDepth 100000 in
theorem m_X3_init_1 (l : Launch) (D : va_G) (h0 : Nat) : IM l yX3_init cX3_init 2 none 2 [.ref h0, .int (1 : Int32)] (kPre D h0 3 [.int 0]) D (fun q => q = h0) none [(h0, .inr (3, [.int 1]))] := by
  refine Met.ofW (cc := cX3_init) (maxL := 2) (ret := none) (by decide) rfl ?_
  intro p e s m args below meth c s₁ B hml hv
  obtain ⟨rfl, hP, hK⟩ := hv
  have hx := B.exec
  have hb := B.bytes
  have hr := B.returns
  have hts : ∀ w ∈ AW, w.before _ s = true := fun w h => atoms_spec (ws := Cond.code yX3_init cX3_init 2 none :: AW) B.pre w (List.mem_cons_of_mem _ h)
  have hown : s.vm.findClass RX3 = some m.cls := findClass_of_methodNamed B.named
  have hin : meth.name = "<init>" := (name_of_methodNamed B.named B.method).1
  have hlocks := B.notSynchronized
  have hS : va_S (fun q => q = h0) s.heap s.heap [] := va_S.rf
  have hD : va_D (fun q => q = h0) [(h0, .inr (3, [.int 0]))] := bal_D
  have hl := lv_entry ([.ref h0, .int (1 : Int32)]) (n := 2) (Nat.le_of_ble_eq_true rfl)
  rw [lg_entry_eq]
  generalize (lg_sl ([.ref h0, .int (1 : Int32)]) ++ List.replicate (2 - (lg_sl ([.ref h0, .int (1 : Int32)])).length) Slot.unset).toArray = ls at hl ⊢
  have hl : lv_has ls 2 [(0, .ref h0), (1, .int (1 : Int32))] := hl
  refine lv_aload_n hx hb dX3_init_0 rfl (lv_at hl 0 rfl) ?_
  refine lv_iload_n hx hb dX3_init_1 rfl (lv_at hl 1 rfl) ?_
  refine i_I (pp := 0) (rest := []) hx hb hml hown hts (m_X2_init_X31 l D h0) q51 q52 q22 q53 rfl nX2_init ⟨Nat.le_of_ble_eq_true rfl, Nat.le_of_ble_eq_true rfl⟩ hl.1 rfl rfl (Nat.le_of_ble_eq_true rfl) dX3_init_2 ⟨Nat.zero_le _, Nat.zero_le _⟩ rfl hP hK hD hS (fun H locs hP hD hS => ?_)
  have hP : va_P D vwCl [(h0, .inr (3, [.int 1]))] H := hP
  have hD : va_D (fun q => q = h0) [(h0, .inr (3, [.int 1]))] := hD
  exact W.vret hx hb hr (fun t ht hW => ⟨rfl, (by rw [ht]; exact hP), hS.F ht⟩) hS.2.2 dX3_init_5
set_option maxHeartbeats 4000000 in
set_option maxRecDepth 100000 in
theorem m_X3_init_0 (l : Launch) (D : va_G) (h0 : Nat) : IM l yX3_init cX3_init 2 none 2 [.ref h0, .int (0 : Int32)] (kPre D h0 3 [.int 0]) D (fun q => q = h0) none [(h0, .inr (3, [.int 0]))] := by
  refine Met.ofW (cc := cX3_init) (maxL := 2) (ret := none) (by decide) rfl ?_
  intro p e s m args below meth c s₁ B hml hv
  obtain ⟨rfl, hP, hK⟩ := hv
  have hx := B.exec
  have hb := B.bytes
  have hr := B.returns
  have hts : ∀ w ∈ AW, w.before _ s = true := fun w h => atoms_spec (ws := Cond.code yX3_init cX3_init 2 none :: AW) B.pre w (List.mem_cons_of_mem _ h)
  have hown : s.vm.findClass RX3 = some m.cls := findClass_of_methodNamed B.named
  have hin : meth.name = "<init>" := (name_of_methodNamed B.named B.method).1
  have hlocks := B.notSynchronized
  have hS : va_S (fun q => q = h0) s.heap s.heap [] := va_S.rf
  have hD : va_D (fun q => q = h0) [(h0, .inr (3, [.int 0]))] := bal_D
  have hl := lv_entry ([.ref h0, .int (0 : Int32)]) (n := 2) (Nat.le_of_ble_eq_true rfl)
  rw [lg_entry_eq]
  generalize (lg_sl ([.ref h0, .int (0 : Int32)]) ++ List.replicate (2 - (lg_sl ([.ref h0, .int (0 : Int32)])).length) Slot.unset).toArray = ls at hl ⊢
  have hl : lv_has ls 2 [(0, .ref h0), (1, .int (0 : Int32))] := hl
  refine lv_aload_n hx hb dX3_init_0 rfl (lv_at hl 0 rfl) ?_
  refine lv_iload_n hx hb dX3_init_1 rfl (lv_at hl 1 rfl) ?_
  refine i_I (pp := 0) (rest := []) hx hb hml hown hts (m_X2_init_X30 l D h0) q51 q52 q22 q53 rfl nX2_init ⟨Nat.le_of_ble_eq_true rfl, Nat.le_of_ble_eq_true rfl⟩ hl.1 rfl rfl (Nat.le_of_ble_eq_true rfl) dX3_init_2 ⟨Nat.zero_le _, Nat.zero_le _⟩ rfl hP hK hD hS (fun H locs hP hD hS => ?_)
  have hP : va_P D vwCl [(h0, .inr (3, [.int 0]))] H := hP
  have hD : va_D (fun q => q = h0) [(h0, .inr (3, [.int 0]))] := hD
  exact W.vret hx hb hr (fun t ht hW => ⟨rfl, (by rw [ht]; exact hP), hS.F ht⟩) hS.2.2 dX3_init_5
theorem nX1_init : yX1_init.cls ≠ "java/lang/invoke/MethodHandle" ∧ yX1_init.cls ≠ "java/lang/invoke/VarHandle" ∧ (parseMethodDescriptor yX1_init.desc).map (fun d => d.parameters.length) = some 1 := by decide +kernel
set_option maxHeartbeats 4000000 in
set_option maxRecDepth 100000 in
theorem m_X1_init_1 (l : Launch) (D : va_G) (h0 : Nat) : IM l yX1_init cX1_init 3 none 2 [.ref h0, .int (1 : Int32)] (kPre D h0 2 [.int 0, .int 0, .long 0, .long 0, .int 0, .int 0, .long 0, .long 0, .long 0]) D (fun q => q = h0) none [(h0, .inr (2, [.int 1, .int 23, .long 8388608, .long (-2147483648), .int 127, .int 255, .long 1065353216, .long 1056964608, .long 2139095040]))] := by
  refine Met.ofW (cc := cX1_init) (maxL := 3) (ret := none) (by decide) rfl ?_
  intro p e s m args below meth c s₁ B hml hv
  obtain ⟨rfl, hP, hK⟩ := hv
  have hx := B.exec
  have hb := B.bytes
  have hr := B.returns
  have hts : ∀ w ∈ AW, w.before _ s = true := fun w h => atoms_spec (ws := Cond.code yX1_init cX1_init 3 none :: AW) B.pre w (List.mem_cons_of_mem _ h)
  have hown : s.vm.findClass RX1 = some m.cls := findClass_of_methodNamed B.named
  have hin : meth.name = "<init>" := (name_of_methodNamed B.named B.method).1
  have hlocks := B.notSynchronized
  have hS : va_S (fun q => q = h0) s.heap s.heap [] := va_S.rf
  have hD : va_D (fun q => q = h0) [(h0, .inr (2, [.int 0, .int 0, .long 0, .long 0, .int 0, .int 0, .long 0, .long 0, .long 0]))] := bal_D
  have hl := lv_entry ([.ref h0, .int (1 : Int32)]) (n := 3) (Nat.le_of_ble_eq_true rfl)
  rw [lg_entry_eq]
  generalize (lg_sl ([.ref h0, .int (1 : Int32)]) ++ List.replicate (3 - (lg_sl ([.ref h0, .int (1 : Int32)])).length) Slot.unset).toArray = ls at hl ⊢
  have hl : lv_has ls 3 [(0, .ref h0), (1, .int (1 : Int32))] := hl
  have kn0 : ¬ (1 : Int32) = 0 := by decide
  refine lv_aload_n hx hb dX1_init_0 rfl (lv_at hl 0 rfl) ?_
  refine lv_iload_n hx hb dX1_init_1 rfl (lv_at hl 1 rfl) ?_
  refine i_I (pp := 0) (rest := []) hx hb hml hown hts (m_X2_init_X11 l D h0) q65 q52 q22 q53 rfl nX2_init ⟨Nat.le_of_ble_eq_true rfl, Nat.le_of_ble_eq_true rfl⟩ hl.1 rfl rfl (Nat.le_of_ble_eq_true rfl) dX1_init_2 ⟨Nat.zero_le _, Nat.zero_le _⟩ rfl hP hK hD hS (fun H locs hP hD hS => ?_)
  have hP : va_P D vwCl [(h0, .inr (2, [.int 1, .int 0, .long 0, .long 0, .int 0, .int 0, .long 0, .long 0, .long 0]))] H := hP
  have hD : va_D (fun q => q = h0) [(h0, .inr (2, [.int 1, .int 0, .long 0, .long 0, .int 0, .int 0, .long 0, .long 0, .long 0]))] := hD
  refine lv_iload_n hx hb dX1_init_5 rfl (lv_at hl 1 rfl) ?_
  refine c_if_eq (tgt := 14) hx hb dX1_init_6 (by decide) (fun hq => absurd hq kn0) (fun _ => ?_)
  refine lv_bipush (v := 8) hx hb dX1_init_9 (by decide) ?_
  refine lv_goto (tgt := 16) hx hb dX1_init_11 (by decide) ?_
  refine lv_istore_n (lv' := [(2, .int (8 : Int32)), (0, .ref h0), (1, .int (1 : Int32))]) hx hb dX1_init_16 rfl hl (by decide) rfl (fun ls hl => ?_)
  refine lv_aload_n hx hb dX1_init_17 rfl (lv_at hl 1 rfl) ?_
  refine lv_iload_n hx hb dX1_init_18 rfl (lv_at hl 2 rfl) ?_
  refine c_if_eq (tgt := 27) hx hb dX1_init_19 (by decide) (fun hq => absurd hq kn0) (fun _ => ?_)
  refine lv_bipush (v := 23) hx hb dX1_init_22 (by decide) ?_
  refine lv_goto (tgt := 29) hx hb dX1_init_24 (by decide) ?_
  refine p_top (w := .int 23) (by decide) ?_
  refine va_putF (C := RX1) (T := TX1) (N := 9) (ci := 2) (ty := .int) hx hb hts inX1 tyX1 tyX1_ok nmX1 hown hK hP hD hS 0 rfl rfl 1 (by decide) (hts _ q67) (fun _ h => h) rfl hin rfl rfl rfl rfl (Nat.le_of_ble_eq_true rfl) dX1_init_29 (fun H locs hP hD hS => ?_)
  have hP : va_P D vwCl [(h0, .inr (2, [.int 1, .int 23, .long 0, .long 0, .int 0, .int 0, .long 0, .long 0, .long 0]))] H := hP
  have hD : va_D (fun q => q = h0) [(h0, .inr (2, [.int 1, .int 23, .long 0, .long 0, .int 0, .int 0, .long 0, .long 0, .long 0]))] := hD
  refine lv_aload_n hx hb dX1_init_32 rfl (lv_at hl 1 rfl) ?_
  refine lv_lconst (v := 1) hx hb dX1_init_33 (by decide) ?_
  refine lv_aload_n hx hb dX1_init_34 rfl (lv_at hl 1 rfl) ?_
  refine va_get (v := .int 23) (C := RX1) (T := TX1) (N := 9) (ci := 2) hx hb hts inX1 hown hK hP 0 rfl rfl 1 (by decide) (hts _ q67) (fun _ h => h) rfl dX1_init_35 ?_
  refine lv_lshl hx hb dX1_init_38 rfl ?_
  refine p_top (w := .long 8388608) (by decide) ?_
  refine va_putF (C := RX1) (T := TX1) (N := 9) (ci := 2) (ty := .long) hx hb hts inX1 tyX1 tyX1_ok nmX1 hown hK hP hD hS 0 rfl rfl 2 (by decide) (hts _ q68) (fun _ h => h) rfl hin rfl rfl rfl rfl (Nat.le_of_ble_eq_true rfl) dX1_init_39 (fun H locs hP hD hS => ?_)
  have hP : va_P D vwCl [(h0, .inr (2, [.int 1, .int 23, .long 8388608, .long 0, .int 0, .int 0, .long 0, .long 0, .long 0]))] H := hP
  have hD : va_D (fun q => q = h0) [(h0, .inr (2, [.int 1, .int 23, .long 8388608, .long 0, .int 0, .int 0, .long 0, .long 0, .long 0]))] := hD
  refine lv_aload_n hx hb dX1_init_42 rfl (lv_at hl 1 rfl) ?_
  refine lv_ldc2 hx hb hown (hts _ q66) dX1_init_43 ?_
  refine lv_aload_n hx hb dX1_init_46 rfl (lv_at hl 1 rfl) ?_
  refine va_get (v := .int 23) (C := RX1) (T := TX1) (N := 9) (ci := 2) hx hb hts inX1 hown hK hP 0 rfl rfl 1 (by decide) (hts _ q67) (fun _ h => h) rfl dX1_init_47 ?_
  refine lv_iload_n hx hb dX1_init_50 rfl (lv_at hl 0 rfl) ?_
  refine lv_iadd hx hb dX1_init_51 ?_
  refine lv_lshl hx hb dX1_init_52 rfl ?_
  refine p_top (w := .long (-2147483648)) (by decide) ?_
  refine va_putF (C := RX1) (T := TX1) (N := 9) (ci := 2) (ty := .long) hx hb hts inX1 tyX1 tyX1_ok nmX1 hown hK hP hD hS 0 rfl rfl 3 (by decide) (hts _ q69) (fun _ h => h) rfl hin rfl rfl rfl rfl (Nat.le_of_ble_eq_true rfl) dX1_init_53 (fun H locs hP hD hS => ?_)
  have hP : va_P D vwCl [(h0, .inr (2, [.int 1, .int 23, .long 8388608, .long (-2147483648), .int 0, .int 0, .long 0, .long 0, .long 0]))] H := hP
  have hD : va_D (fun q => q = h0) [(h0, .inr (2, [.int 1, .int 23, .long 8388608, .long (-2147483648), .int 0, .int 0, .long 0, .long 0, .long 0]))] := hD
  refine lv_aload_n hx hb dX1_init_56 rfl (lv_at hl 1 rfl) ?_
  refine lv_iconst (v := 1) hx hb dX1_init_57 (by decide) ?_
  refine lv_iload_n hx hb dX1_init_58 rfl (lv_at hl 0 rfl) ?_
  refine lv_iconst (v := 1) hx hb dX1_init_59 (by decide) ?_
  refine lv_isub hx hb dX1_init_60 ?_
  refine lv_ishl hx hb dX1_init_61 ?_
  refine lv_iconst (v := 1) hx hb dX1_init_62 (by decide) ?_
  refine lv_isub hx hb dX1_init_63 ?_
  refine p_top (w := .int 127) (by decide) ?_
  refine va_putF (C := RX1) (T := TX1) (N := 9) (ci := 2) (ty := .int) hx hb hts inX1 tyX1 tyX1_ok nmX1 hown hK hP hD hS 0 rfl rfl 4 (by decide) (hts _ q70) (fun _ h => h) rfl hin rfl rfl rfl rfl (Nat.le_of_ble_eq_true rfl) dX1_init_64 (fun H locs hP hD hS => ?_)
  have hP : va_P D vwCl [(h0, .inr (2, [.int 1, .int 23, .long 8388608, .long (-2147483648), .int 127, .int 0, .long 0, .long 0, .long 0]))] H := hP
  have hD : va_D (fun q => q = h0) [(h0, .inr (2, [.int 1, .int 23, .long 8388608, .long (-2147483648), .int 127, .int 0, .long 0, .long 0, .long 0]))] := hD
  refine lv_aload_n hx hb dX1_init_67 rfl (lv_at hl 1 rfl) ?_
  refine lv_iconst (v := 1) hx hb dX1_init_68 (by decide) ?_
  refine lv_iload_n hx hb dX1_init_69 rfl (lv_at hl 0 rfl) ?_
  refine lv_ishl hx hb dX1_init_70 ?_
  refine lv_iconst (v := 1) hx hb dX1_init_71 (by decide) ?_
  refine lv_isub hx hb dX1_init_72 ?_
  refine p_top (w := .int 255) (by decide) ?_
  refine va_putF (C := RX1) (T := TX1) (N := 9) (ci := 2) (ty := .int) hx hb hts inX1 tyX1 tyX1_ok nmX1 hown hK hP hD hS 0 rfl rfl 5 (by decide) (hts _ q71) (fun _ h => h) rfl hin rfl rfl rfl rfl (Nat.le_of_ble_eq_true rfl) dX1_init_73 (fun H locs hP hD hS => ?_)
  have hP : va_P D vwCl [(h0, .inr (2, [.int 1, .int 23, .long 8388608, .long (-2147483648), .int 127, .int 255, .long 0, .long 0, .long 0]))] H := hP
  have hD : va_D (fun q => q = h0) [(h0, .inr (2, [.int 1, .int 23, .long 8388608, .long (-2147483648), .int 127, .int 255, .long 0, .long 0, .long 0]))] := hD
  refine lv_aload_n hx hb dX1_init_76 rfl (lv_at hl 1 rfl) ?_
  refine lv_aload_n hx hb dX1_init_77 rfl (lv_at hl 1 rfl) ?_
  refine va_get (v := .int 127) (C := RX1) (T := TX1) (N := 9) (ci := 2) hx hb hts inX1 hown hK hP 0 rfl rfl 4 (by decide) (hts _ q70) (fun _ h => h) rfl dX1_init_78 ?_
  refine lv_i2l hx hb dX1_init_81 rfl ?_
  refine lv_aload_n hx hb dX1_init_82 rfl (lv_at hl 1 rfl) ?_
  refine va_get (v := .int 23) (C := RX1) (T := TX1) (N := 9) (ci := 2) hx hb hts inX1 hown hK hP 0 rfl rfl 1 (by decide) (hts _ q67) (fun _ h => h) rfl dX1_init_83 ?_
  refine lv_lshl hx hb dX1_init_86 rfl ?_
  refine p_top (w := .long 1065353216) (by decide) ?_
  refine va_putF (C := RX1) (T := TX1) (N := 9) (ci := 2) (ty := .long) hx hb hts inX1 tyX1 tyX1_ok nmX1 hown hK hP hD hS 0 rfl rfl 6 (by decide) (hts _ q72) (fun _ h => h) rfl hin rfl rfl rfl rfl (Nat.le_of_ble_eq_true rfl) dX1_init_87 (fun H locs hP hD hS => ?_)
  have hP : va_P D vwCl [(h0, .inr (2, [.int 1, .int 23, .long 8388608, .long (-2147483648), .int 127, .int 255, .long 1065353216, .long 0, .long 0]))] H := hP
  have hD : va_D (fun q => q = h0) [(h0, .inr (2, [.int 1, .int 23, .long 8388608, .long (-2147483648), .int 127, .int 255, .long 1065353216, .long 0, .long 0]))] := hD
  refine lv_aload_n hx hb dX1_init_90 rfl (lv_at hl 1 rfl) ?_
  refine lv_aload_n hx hb dX1_init_91 rfl (lv_at hl 1 rfl) ?_
  refine va_get (v := .int 127) (C := RX1) (T := TX1) (N := 9) (ci := 2) hx hb hts inX1 hown hK hP 0 rfl rfl 4 (by decide) (hts _ q70) (fun _ h => h) rfl dX1_init_92 ?_
  refine lv_iconst (v := 1) hx hb dX1_init_95 (by decide) ?_
  refine lv_isub hx hb dX1_init_96 ?_
  refine lv_i2l hx hb dX1_init_97 rfl ?_
  refine lv_aload_n hx hb dX1_init_98 rfl (lv_at hl 1 rfl) ?_
  refine va_get (v := .int 23) (C := RX1) (T := TX1) (N := 9) (ci := 2) hx hb hts inX1 hown hK hP 0 rfl rfl 1 (by decide) (hts _ q67) (fun _ h => h) rfl dX1_init_99 ?_
  refine lv_lshl hx hb dX1_init_102 rfl ?_
  refine p_top (w := .long 1056964608) (by decide) ?_
  refine va_putF (C := RX1) (T := TX1) (N := 9) (ci := 2) (ty := .long) hx hb hts inX1 tyX1 tyX1_ok nmX1 hown hK hP hD hS 0 rfl rfl 7 (by decide) (hts _ q73) (fun _ h => h) rfl hin rfl rfl rfl rfl (Nat.le_of_ble_eq_true rfl) dX1_init_103 (fun H locs hP hD hS => ?_)
  have hP : va_P D vwCl [(h0, .inr (2, [.int 1, .int 23, .long 8388608, .long (-2147483648), .int 127, .int 255, .long 1065353216, .long 1056964608, .long 0]))] H := hP
  have hD : va_D (fun q => q = h0) [(h0, .inr (2, [.int 1, .int 23, .long 8388608, .long (-2147483648), .int 127, .int 255, .long 1065353216, .long 1056964608, .long 0]))] := hD
  refine lv_aload_n hx hb dX1_init_106 rfl (lv_at hl 1 rfl) ?_
  refine lv_aload_n hx hb dX1_init_107 rfl (lv_at hl 1 rfl) ?_
  refine va_get (v := .int 255) (C := RX1) (T := TX1) (N := 9) (ci := 2) hx hb hts inX1 hown hK hP 0 rfl rfl 5 (by decide) (hts _ q71) (fun _ h => h) rfl dX1_init_108 ?_
  refine lv_i2l hx hb dX1_init_111 rfl ?_
  refine lv_aload_n hx hb dX1_init_112 rfl (lv_at hl 1 rfl) ?_
  refine va_get (v := .int 23) (C := RX1) (T := TX1) (N := 9) (ci := 2) hx hb hts inX1 hown hK hP 0 rfl rfl 1 (by decide) (hts _ q67) (fun _ h => h) rfl dX1_init_113 ?_
  refine lv_lshl hx hb dX1_init_116 rfl ?_
  refine p_top (w := .long 2139095040) (by decide) ?_
  refine va_putF (C := RX1) (T := TX1) (N := 9) (ci := 2) (ty := .long) hx hb hts inX1 tyX1 tyX1_ok nmX1 hown hK hP hD hS 0 rfl rfl 8 (by decide) (hts _ q74) (fun _ h => h) rfl hin rfl rfl rfl rfl (Nat.le_of_ble_eq_true rfl) dX1_init_117 (fun H locs hP hD hS => ?_)
  have hP : va_P D vwCl [(h0, .inr (2, [.int 1, .int 23, .long 8388608, .long (-2147483648), .int 127, .int 255, .long 1065353216, .long 1056964608, .long 2139095040]))] H := hP
  have hD : va_D (fun q => q = h0) [(h0, .inr (2, [.int 1, .int 23, .long 8388608, .long (-2147483648), .int 127, .int 255, .long 1065353216, .long 1056964608, .long 2139095040]))] := hD
  exact W.vret hx hb hr (fun t ht hW => ⟨rfl, (by rw [ht]; exact hP), hS.F ht⟩) hS.2.2 dX1_init_120
set_option maxHeartbeats 4000000 in
set_option maxRecDepth 100000 in
theorem m_X1_init_0 (l : Launch) (D : va_G) (h0 : Nat) : IM l yX1_init cX1_init 3 none 2 [.ref h0, .int (0 : Int32)] (kPre D h0 2 [.int 0, .int 0, .long 0, .long 0, .int 0, .int 0, .long 0, .long 0, .long 0]) D (fun q => q = h0) none [(h0, .inr (2, [.int 0, .int 52, .long 4503599627370496, .long (-9223372036854775808), .int 1023, .int 2047, .long 4607182418800017408, .long 4602678819172646912, .long 9218868437227405312]))] := by
  refine Met.ofW (cc := cX1_init) (maxL := 3) (ret := none) (by decide) rfl ?_
  intro p e s m args below meth c s₁ B hml hv
  obtain ⟨rfl, hP, hK⟩ := hv
  have hx := B.exec
  have hb := B.bytes
  have hr := B.returns
  have hts : ∀ w ∈ AW, w.before _ s = true := fun w h => atoms_spec (ws := Cond.code yX1_init cX1_init 3 none :: AW) B.pre w (List.mem_cons_of_mem _ h)
  have hown : s.vm.findClass RX1 = some m.cls := findClass_of_methodNamed B.named
  have hin : meth.name = "<init>" := (name_of_methodNamed B.named B.method).1
  have hlocks := B.notSynchronized
  have hS : va_S (fun q => q = h0) s.heap s.heap [] := va_S.rf
  have hD : va_D (fun q => q = h0) [(h0, .inr (2, [.int 0, .int 0, .long 0, .long 0, .int 0, .int 0, .long 0, .long 0, .long 0]))] := bal_D
  have hl := lv_entry ([.ref h0, .int (0 : Int32)]) (n := 3) (Nat.le_of_ble_eq_true rfl)
  rw [lg_entry_eq]
  generalize (lg_sl ([.ref h0, .int (0 : Int32)]) ++ List.replicate (3 - (lg_sl ([.ref h0, .int (0 : Int32)])).length) Slot.unset).toArray = ls at hl ⊢
  have hl : lv_has ls 3 [(0, .ref h0), (1, .int (0 : Int32))] := hl
  have kn0 : (0 : Int32) = 0 := by decide
  refine lv_aload_n hx hb dX1_init_0 rfl (lv_at hl 0 rfl) ?_
  refine lv_iload_n hx hb dX1_init_1 rfl (lv_at hl 1 rfl) ?_
  refine i_I (pp := 0) (rest := []) hx hb hml hown hts (m_X2_init_X10 l D h0) q65 q52 q22 q53 rfl nX2_init ⟨Nat.le_of_ble_eq_true rfl, Nat.le_of_ble_eq_true rfl⟩ hl.1 rfl rfl (Nat.le_of_ble_eq_true rfl) dX1_init_2 ⟨Nat.zero_le _, Nat.zero_le _⟩ rfl hP hK hD hS (fun H locs hP hD hS => ?_)
  have hP : va_P D vwCl [(h0, .inr (2, [.int 0, .int 0, .long 0, .long 0, .int 0, .int 0, .long 0, .long 0, .long 0]))] H := hP
  have hD : va_D (fun q => q = h0) [(h0, .inr (2, [.int 0, .int 0, .long 0, .long 0, .int 0, .int 0, .long 0, .long 0, .long 0]))] := hD
  refine lv_iload_n hx hb dX1_init_5 rfl (lv_at hl 1 rfl) ?_
  refine c_if_eq (tgt := 14) hx hb dX1_init_6 (by decide) (fun _ => ?_) (fun hq => absurd kn0 hq)
  refine lv_bipush (v := 11) hx hb dX1_init_14 (by decide) ?_
  refine lv_istore_n (lv' := [(2, .int (11 : Int32)), (0, .ref h0), (1, .int (0 : Int32))]) hx hb dX1_init_16 rfl hl (by decide) rfl (fun ls hl => ?_)
  refine lv_aload_n hx hb dX1_init_17 rfl (lv_at hl 1 rfl) ?_
  refine lv_iload_n hx hb dX1_init_18 rfl (lv_at hl 2 rfl) ?_
  refine c_if_eq (tgt := 27) hx hb dX1_init_19 (by decide) (fun _ => ?_) (fun hq => absurd kn0 hq)
  refine lv_bipush (v := 52) hx hb dX1_init_27 (by decide) ?_
  refine p_top (w := .int 52) (by decide) ?_
  refine va_putF (C := RX1) (T := TX1) (N := 9) (ci := 2) (ty := .int) hx hb hts inX1 tyX1 tyX1_ok nmX1 hown hK hP hD hS 0 rfl rfl 1 (by decide) (hts _ q67) (fun _ h => h) rfl hin rfl rfl rfl rfl (Nat.le_of_ble_eq_true rfl) dX1_init_29 (fun H locs hP hD hS => ?_)
  have hP : va_P D vwCl [(h0, .inr (2, [.int 0, .int 52, .long 0, .long 0, .int 0, .int 0, .long 0, .long 0, .long 0]))] H := hP
  have hD : va_D (fun q => q = h0) [(h0, .inr (2, [.int 0, .int 52, .long 0, .long 0, .int 0, .int 0, .long 0, .long 0, .long 0]))] := hD
  refine lv_aload_n hx hb dX1_init_32 rfl (lv_at hl 1 rfl) ?_
  refine lv_lconst (v := 1) hx hb dX1_init_33 (by decide) ?_
  refine lv_aload_n hx hb dX1_init_34 rfl (lv_at hl 1 rfl) ?_
  refine va_get (v := .int 52) (C := RX1) (T := TX1) (N := 9) (ci := 2) hx hb hts inX1 hown hK hP 0 rfl rfl 1 (by decide) (hts _ q67) (fun _ h => h) rfl dX1_init_35 ?_
  refine lv_lshl hx hb dX1_init_38 rfl ?_
  refine p_top (w := .long 4503599627370496) (by decide) ?_
  refine va_putF (C := RX1) (T := TX1) (N := 9) (ci := 2) (ty := .long) hx hb hts inX1 tyX1 tyX1_ok nmX1 hown hK hP hD hS 0 rfl rfl 2 (by decide) (hts _ q68) (fun _ h => h) rfl hin rfl rfl rfl rfl (Nat.le_of_ble_eq_true rfl) dX1_init_39 (fun H locs hP hD hS => ?_)
  have hP : va_P D vwCl [(h0, .inr (2, [.int 0, .int 52, .long 4503599627370496, .long 0, .int 0, .int 0, .long 0, .long 0, .long 0]))] H := hP
  have hD : va_D (fun q => q = h0) [(h0, .inr (2, [.int 0, .int 52, .long 4503599627370496, .long 0, .int 0, .int 0, .long 0, .long 0, .long 0]))] := hD
  refine lv_aload_n hx hb dX1_init_42 rfl (lv_at hl 1 rfl) ?_
  refine lv_ldc2 hx hb hown (hts _ q66) dX1_init_43 ?_
  refine lv_aload_n hx hb dX1_init_46 rfl (lv_at hl 1 rfl) ?_
  refine va_get (v := .int 52) (C := RX1) (T := TX1) (N := 9) (ci := 2) hx hb hts inX1 hown hK hP 0 rfl rfl 1 (by decide) (hts _ q67) (fun _ h => h) rfl dX1_init_47 ?_
  refine lv_iload_n hx hb dX1_init_50 rfl (lv_at hl 0 rfl) ?_
  refine lv_iadd hx hb dX1_init_51 ?_
  refine lv_lshl hx hb dX1_init_52 rfl ?_
  refine p_top (w := .long (-9223372036854775808)) (by decide) ?_
  refine va_putF (C := RX1) (T := TX1) (N := 9) (ci := 2) (ty := .long) hx hb hts inX1 tyX1 tyX1_ok nmX1 hown hK hP hD hS 0 rfl rfl 3 (by decide) (hts _ q69) (fun _ h => h) rfl hin rfl rfl rfl rfl (Nat.le_of_ble_eq_true rfl) dX1_init_53 (fun H locs hP hD hS => ?_)
  have hP : va_P D vwCl [(h0, .inr (2, [.int 0, .int 52, .long 4503599627370496, .long (-9223372036854775808), .int 0, .int 0, .long 0, .long 0, .long 0]))] H := hP
  have hD : va_D (fun q => q = h0) [(h0, .inr (2, [.int 0, .int 52, .long 4503599627370496, .long (-9223372036854775808), .int 0, .int 0, .long 0, .long 0, .long 0]))] := hD
  refine lv_aload_n hx hb dX1_init_56 rfl (lv_at hl 1 rfl) ?_
  refine lv_iconst (v := 1) hx hb dX1_init_57 (by decide) ?_
  refine lv_iload_n hx hb dX1_init_58 rfl (lv_at hl 0 rfl) ?_
  refine lv_iconst (v := 1) hx hb dX1_init_59 (by decide) ?_
  refine lv_isub hx hb dX1_init_60 ?_
  refine lv_ishl hx hb dX1_init_61 ?_
  refine lv_iconst (v := 1) hx hb dX1_init_62 (by decide) ?_
  refine lv_isub hx hb dX1_init_63 ?_
  refine p_top (w := .int 1023) (by decide) ?_
  refine va_putF (C := RX1) (T := TX1) (N := 9) (ci := 2) (ty := .int) hx hb hts inX1 tyX1 tyX1_ok nmX1 hown hK hP hD hS 0 rfl rfl 4 (by decide) (hts _ q70) (fun _ h => h) rfl hin rfl rfl rfl rfl (Nat.le_of_ble_eq_true rfl) dX1_init_64 (fun H locs hP hD hS => ?_)
  have hP : va_P D vwCl [(h0, .inr (2, [.int 0, .int 52, .long 4503599627370496, .long (-9223372036854775808), .int 1023, .int 0, .long 0, .long 0, .long 0]))] H := hP
  have hD : va_D (fun q => q = h0) [(h0, .inr (2, [.int 0, .int 52, .long 4503599627370496, .long (-9223372036854775808), .int 1023, .int 0, .long 0, .long 0, .long 0]))] := hD
  refine lv_aload_n hx hb dX1_init_67 rfl (lv_at hl 1 rfl) ?_
  refine lv_iconst (v := 1) hx hb dX1_init_68 (by decide) ?_
  refine lv_iload_n hx hb dX1_init_69 rfl (lv_at hl 0 rfl) ?_
  refine lv_ishl hx hb dX1_init_70 ?_
  refine lv_iconst (v := 1) hx hb dX1_init_71 (by decide) ?_
  refine lv_isub hx hb dX1_init_72 ?_
  refine p_top (w := .int 2047) (by decide) ?_
  refine va_putF (C := RX1) (T := TX1) (N := 9) (ci := 2) (ty := .int) hx hb hts inX1 tyX1 tyX1_ok nmX1 hown hK hP hD hS 0 rfl rfl 5 (by decide) (hts _ q71) (fun _ h => h) rfl hin rfl rfl rfl rfl (Nat.le_of_ble_eq_true rfl) dX1_init_73 (fun H locs hP hD hS => ?_)
  have hP : va_P D vwCl [(h0, .inr (2, [.int 0, .int 52, .long 4503599627370496, .long (-9223372036854775808), .int 1023, .int 2047, .long 0, .long 0, .long 0]))] H := hP
  have hD : va_D (fun q => q = h0) [(h0, .inr (2, [.int 0, .int 52, .long 4503599627370496, .long (-9223372036854775808), .int 1023, .int 2047, .long 0, .long 0, .long 0]))] := hD
  refine lv_aload_n hx hb dX1_init_76 rfl (lv_at hl 1 rfl) ?_
  refine lv_aload_n hx hb dX1_init_77 rfl (lv_at hl 1 rfl) ?_
  refine va_get (v := .int 1023) (C := RX1) (T := TX1) (N := 9) (ci := 2) hx hb hts inX1 hown hK hP 0 rfl rfl 4 (by decide) (hts _ q70) (fun _ h => h) rfl dX1_init_78 ?_
  refine lv_i2l hx hb dX1_init_81 rfl ?_
  refine lv_aload_n hx hb dX1_init_82 rfl (lv_at hl 1 rfl) ?_
  refine va_get (v := .int 52) (C := RX1) (T := TX1) (N := 9) (ci := 2) hx hb hts inX1 hown hK hP 0 rfl rfl 1 (by decide) (hts _ q67) (fun _ h => h) rfl dX1_init_83 ?_
  refine lv_lshl hx hb dX1_init_86 rfl ?_
  refine p_top (w := .long 4607182418800017408) (by decide) ?_
  refine va_putF (C := RX1) (T := TX1) (N := 9) (ci := 2) (ty := .long) hx hb hts inX1 tyX1 tyX1_ok nmX1 hown hK hP hD hS 0 rfl rfl 6 (by decide) (hts _ q72) (fun _ h => h) rfl hin rfl rfl rfl rfl (Nat.le_of_ble_eq_true rfl) dX1_init_87 (fun H locs hP hD hS => ?_)
  have hP : va_P D vwCl [(h0, .inr (2, [.int 0, .int 52, .long 4503599627370496, .long (-9223372036854775808), .int 1023, .int 2047, .long 4607182418800017408, .long 0, .long 0]))] H := hP
  have hD : va_D (fun q => q = h0) [(h0, .inr (2, [.int 0, .int 52, .long 4503599627370496, .long (-9223372036854775808), .int 1023, .int 2047, .long 4607182418800017408, .long 0, .long 0]))] := hD
  refine lv_aload_n hx hb dX1_init_90 rfl (lv_at hl 1 rfl) ?_
  refine lv_aload_n hx hb dX1_init_91 rfl (lv_at hl 1 rfl) ?_
  refine va_get (v := .int 1023) (C := RX1) (T := TX1) (N := 9) (ci := 2) hx hb hts inX1 hown hK hP 0 rfl rfl 4 (by decide) (hts _ q70) (fun _ h => h) rfl dX1_init_92 ?_
  refine lv_iconst (v := 1) hx hb dX1_init_95 (by decide) ?_
  refine lv_isub hx hb dX1_init_96 ?_
  refine lv_i2l hx hb dX1_init_97 rfl ?_
  refine lv_aload_n hx hb dX1_init_98 rfl (lv_at hl 1 rfl) ?_
  refine va_get (v := .int 52) (C := RX1) (T := TX1) (N := 9) (ci := 2) hx hb hts inX1 hown hK hP 0 rfl rfl 1 (by decide) (hts _ q67) (fun _ h => h) rfl dX1_init_99 ?_
  refine lv_lshl hx hb dX1_init_102 rfl ?_
  refine p_top (w := .long 4602678819172646912) (by decide) ?_
  refine va_putF (C := RX1) (T := TX1) (N := 9) (ci := 2) (ty := .long) hx hb hts inX1 tyX1 tyX1_ok nmX1 hown hK hP hD hS 0 rfl rfl 7 (by decide) (hts _ q73) (fun _ h => h) rfl hin rfl rfl rfl rfl (Nat.le_of_ble_eq_true rfl) dX1_init_103 (fun H locs hP hD hS => ?_)
  have hP : va_P D vwCl [(h0, .inr (2, [.int 0, .int 52, .long 4503599627370496, .long (-9223372036854775808), .int 1023, .int 2047, .long 4607182418800017408, .long 4602678819172646912, .long 0]))] H := hP
  have hD : va_D (fun q => q = h0) [(h0, .inr (2, [.int 0, .int 52, .long 4503599627370496, .long (-9223372036854775808), .int 1023, .int 2047, .long 4607182418800017408, .long 4602678819172646912, .long 0]))] := hD
  refine lv_aload_n hx hb dX1_init_106 rfl (lv_at hl 1 rfl) ?_
  refine lv_aload_n hx hb dX1_init_107 rfl (lv_at hl 1 rfl) ?_
  refine va_get (v := .int 2047) (C := RX1) (T := TX1) (N := 9) (ci := 2) hx hb hts inX1 hown hK hP 0 rfl rfl 5 (by decide) (hts _ q71) (fun _ h => h) rfl dX1_init_108 ?_
  refine lv_i2l hx hb dX1_init_111 rfl ?_
  refine lv_aload_n hx hb dX1_init_112 rfl (lv_at hl 1 rfl) ?_
  refine va_get (v := .int 52) (C := RX1) (T := TX1) (N := 9) (ci := 2) hx hb hts inX1 hown hK hP 0 rfl rfl 1 (by decide) (hts _ q67) (fun _ h => h) rfl dX1_init_113 ?_
  refine lv_lshl hx hb dX1_init_116 rfl ?_
  refine p_top (w := .long 9218868437227405312) (by decide) ?_
  refine va_putF (C := RX1) (T := TX1) (N := 9) (ci := 2) (ty := .long) hx hb hts inX1 tyX1 tyX1_ok nmX1 hown hK hP hD hS 0 rfl rfl 8 (by decide) (hts _ q74) (fun _ h => h) rfl hin rfl rfl rfl rfl (Nat.le_of_ble_eq_true rfl) dX1_init_117 (fun H locs hP hD hS => ?_)
  have hP : va_P D vwCl [(h0, .inr (2, [.int 0, .int 52, .long 4503599627370496, .long (-9223372036854775808), .int 1023, .int 2047, .long 4607182418800017408, .long 4602678819172646912, .long 9218868437227405312]))] H := hP
  have hD : va_D (fun q => q = h0) [(h0, .inr (2, [.int 0, .int 52, .long 4503599627370496, .long (-9223372036854775808), .int 1023, .int 2047, .long 4607182418800017408, .long 4602678819172646912, .long 9218868437227405312]))] := hD
  exact W.vret hx hb hr (fun t ht hW => ⟨rfl, (by rw [ht]; exact hP), hS.F ht⟩) hS.2.2 dX1_init_120
theorem nX0_init : yX0_init.cls ≠ "java/lang/invoke/MethodHandle" ∧ yX0_init.cls ≠ "java/lang/invoke/VarHandle" ∧ (parseMethodDescriptor yX0_init.desc).map (fun d => d.parameters.length) = some 1 := by decide +kernel
set_option maxHeartbeats 4000000 in
set_option maxRecDepth 100000 in
theorem m_X0_init (l : Launch) (D : va_G) (h0 : Nat) (so : Nat) : IM l yX0_init cX0_init 2 none 1 [.ref h0, .ref so] (kPre D h0 1 [.null, .int 0, .long 0, .long 0, .long 0, .long 0, .long 0]) D (fun q => q = h0) none [(h0, .inr (1, balF so 0 0 0 0 0 0))] := by
  refine Met.ofW (cc := cX0_init) (maxL := 2) (ret := none) (by decide) rfl ?_
  intro p e s m args below meth c s₁ B hml hv
  obtain ⟨rfl, hP, hK⟩ := hv
  have hx := B.exec
  have hb := B.bytes
  have hr := B.returns
  have hts : ∀ w ∈ AW, w.before _ s = true := fun w h => atoms_spec (ws := Cond.code yX0_init cX0_init 2 none :: AW) B.pre w (List.mem_cons_of_mem _ h)
  have hown : s.vm.findClass RX0 = some m.cls := findClass_of_methodNamed B.named
  have hin : meth.name = "<init>" := (name_of_methodNamed B.named B.method).1
  have hlocks := B.notSynchronized
  have hS : va_S (fun q => q = h0) s.heap s.heap [] := va_S.rf
  have hD : va_D (fun q => q = h0) [(h0, .inr (1, [.null, .int 0, .long 0, .long 0, .long 0, .long 0, .long 0]))] := bal_D
  have hl := lv_entry ([.ref h0, .ref so]) (n := 2) (Nat.le_of_ble_eq_true rfl)
  rw [lg_entry_eq]
  generalize (lg_sl ([.ref h0, .ref so]) ++ List.replicate (2 - (lg_sl ([.ref h0, .ref so])).length) Slot.unset).toArray = ls at hl ⊢
  have hl : lv_has ls 2 [(0, .ref h0), (1, .ref so)] := hl
  refine lv_aload_n hx hb dX0_init_0 rfl (lv_at hl 0 rfl) ?_
  refine W.objInit hx hb hown (hts _ q97) (hts _ q42) (hts _ q43) rfl (by rw [hml]; exact hl.1) rfl dX0_init_1 (Nat.le_of_ble_eq_true rfl) (Nat.le_of_ble_eq_true rfl) ?_
  refine lv_aload_n hx hb dX0_init_4 rfl (lv_at hl 0 rfl) ?_
  refine lv_iconst (v := 0) hx hb dX0_init_5 (by decide) ?_
  refine va_put (C := RX0) (T := TX0) (N := 7) (ci := 1) (ty := .int) hx hb hts inX0 tyX0 tyX0_ok nmX0 hown hK hP hD hS 0 rfl rfl 1 (by decide) (hts _ q100) (fun _ h => h) rfl rfl rfl rfl (Nat.le_of_ble_eq_true rfl) dX0_init_6 (fun H locs hP hD hS => ?_)
  have hP : va_P D vwCl [(h0, .inr (1, [.null, .int (0 : Int32), .long 0, .long 0, .long 0, .long 0, .long 0]))] H := hP
  have hD : va_D (fun q => q = h0) [(h0, .inr (1, [.null, .int (0 : Int32), .long 0, .long 0, .long 0, .long 0, .long 0]))] := hD
  refine lv_aload_n hx hb dX0_init_9 rfl (lv_at hl 0 rfl) ?_
  refine lv_lconst (v := 0) hx hb dX0_init_10 (by decide) ?_
  refine va_put (C := RX0) (T := TX0) (N := 7) (ci := 1) (ty := .long) hx hb hts inX0 tyX0 tyX0_ok nmX0 hown hK hP hD hS 0 rfl rfl 2 (by decide) (hts _ q102) (fun _ h => h) rfl rfl rfl rfl (Nat.le_of_ble_eq_true rfl) dX0_init_11 (fun H locs hP hD hS => ?_)
  have hP : va_P D vwCl [(h0, .inr (1, [.null, .int (0 : Int32), .long (0 : Int64), .long 0, .long 0, .long 0, .long 0]))] H := hP
  have hD : va_D (fun q => q = h0) [(h0, .inr (1, [.null, .int (0 : Int32), .long (0 : Int64), .long 0, .long 0, .long 0, .long 0]))] := hD
  refine lv_aload_n hx hb dX0_init_14 rfl (lv_at hl 0 rfl) ?_
  refine lv_lconst (v := 0) hx hb dX0_init_15 (by decide) ?_
  refine va_put (C := RX0) (T := TX0) (N := 7) (ci := 1) (ty := .long) hx hb hts inX0 tyX0 tyX0_ok nmX0 hown hK hP hD hS 0 rfl rfl 3 (by decide) (hts _ q104) (fun _ h => h) rfl rfl rfl rfl (Nat.le_of_ble_eq_true rfl) dX0_init_16 (fun H locs hP hD hS => ?_)
  have hP : va_P D vwCl [(h0, .inr (1, [.null, .int (0 : Int32), .long (0 : Int64), .long (0 : Int64), .long 0, .long 0, .long 0]))] H := hP
  have hD : va_D (fun q => q = h0) [(h0, .inr (1, [.null, .int (0 : Int32), .long (0 : Int64), .long (0 : Int64), .long 0, .long 0, .long 0]))] := hD
  refine lv_aload_n hx hb dX0_init_19 rfl (lv_at hl 0 rfl) ?_
  refine lv_lconst (v := 0) hx hb dX0_init_20 (by decide) ?_
  refine va_put (C := RX0) (T := TX0) (N := 7) (ci := 1) (ty := .long) hx hb hts inX0 tyX0 tyX0_ok nmX0 hown hK hP hD hS 0 rfl rfl 4 (by decide) (hts _ q106) (fun _ h => h) rfl rfl rfl rfl (Nat.le_of_ble_eq_true rfl) dX0_init_21 (fun H locs hP hD hS => ?_)
  have hP : va_P D vwCl [(h0, .inr (1, [.null, .int (0 : Int32), .long (0 : Int64), .long (0 : Int64), .long (0 : Int64), .long 0, .long 0]))] H := hP
  have hD : va_D (fun q => q = h0) [(h0, .inr (1, [.null, .int (0 : Int32), .long (0 : Int64), .long (0 : Int64), .long (0 : Int64), .long 0, .long 0]))] := hD
  refine lv_aload_n hx hb dX0_init_24 rfl (lv_at hl 0 rfl) ?_
  refine lv_lconst (v := 0) hx hb dX0_init_25 (by decide) ?_
  refine va_put (C := RX0) (T := TX0) (N := 7) (ci := 1) (ty := .long) hx hb hts inX0 tyX0 tyX0_ok nmX0 hown hK hP hD hS 0 rfl rfl 5 (by decide) (hts _ q108) (fun _ h => h) rfl rfl rfl rfl (Nat.le_of_ble_eq_true rfl) dX0_init_26 (fun H locs hP hD hS => ?_)
  have hP : va_P D vwCl [(h0, .inr (1, [.null, .int (0 : Int32), .long (0 : Int64), .long (0 : Int64), .long (0 : Int64), .long (0 : Int64), .long 0]))] H := hP
  have hD : va_D (fun q => q = h0) [(h0, .inr (1, [.null, .int (0 : Int32), .long (0 : Int64), .long (0 : Int64), .long (0 : Int64), .long (0 : Int64), .long 0]))] := hD
  refine lv_aload_n hx hb dX0_init_29 rfl (lv_at hl 0 rfl) ?_
  refine lv_lconst (v := 0) hx hb dX0_init_30 (by decide) ?_
  refine va_put (C := RX0) (T := TX0) (N := 7) (ci := 1) (ty := .long) hx hb hts inX0 tyX0 tyX0_ok nmX0 hown hK hP hD hS 0 rfl rfl 6 (by decide) (hts _ q110) (fun _ h => h) rfl rfl rfl rfl (Nat.le_of_ble_eq_true rfl) dX0_init_31 (fun H locs hP hD hS => ?_)
  have hP : va_P D vwCl [(h0, .inr (1, [.null, .int (0 : Int32), .long (0 : Int64), .long (0 : Int64), .long (0 : Int64), .long (0 : Int64), .long (0 : Int64)]))] H := hP
  have hD : va_D (fun q => q = h0) [(h0, .inr (1, [.null, .int (0 : Int32), .long (0 : Int64), .long (0 : Int64), .long (0 : Int64), .long (0 : Int64), .long (0 : Int64)]))] := hD
  refine lv_aload_n hx hb dX0_init_34 rfl (lv_at hl 0 rfl) ?_
  refine lv_aload_n hx hb dX0_init_35 rfl (lv_at hl 1 rfl) ?_
  refine va_putF (C := RX0) (T := TX0) (N := 7) (ci := 1) (ty := (.object "BalanceRoom$Sort")) hx hb hts inX0 tyX0 tyX0_ok nmX0 hown hK hP hD hS 0 rfl rfl 0 (by decide) (hts _ q98) (fun _ h => h) rfl hin rfl rfl rfl rfl (Nat.le_of_ble_eq_true rfl) dX0_init_36 (fun H locs hP hD hS => ?_)
  have hP : va_P D vwCl [(h0, .inr (1, [.ref so, .int (0 : Int32), .long (0 : Int64), .long (0 : Int64), .long (0 : Int64), .long (0 : Int64), .long (0 : Int64)]))] H := hP
  have hD : va_D (fun q => q = h0) [(h0, .inr (1, [.ref so, .int (0 : Int32), .long (0 : Int64), .long (0 : Int64), .long (0 : Int64), .long (0 : Int64), .long (0 : Int64)]))] := hD
  exact W.vret hx hb hr (fun t ht hW => ⟨rfl, (by rw [ht]; exact hP), hS.F ht⟩) hS.2.2 dX0_init_39
