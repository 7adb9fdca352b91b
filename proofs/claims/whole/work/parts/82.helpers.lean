set_option maxHeartbeats 4000000 in
set_option maxRecDepth 100000 in
theorem L_read_ok (l : Launch) (D : va_G) (A : Nat → Prop) (cI cB cJ : ClassId) (ra : Nat → Nat) (oa : Nat) (o : Nat → Int64) (σ σ' : St) (fr : va_W) (a : Int32) (v : Int64) (z : Int32) (hM : IM l yX4_read cX4_read 7 (some .int) 7 [.ref (ra 0), .int a, .long v] (rPre D A cI cB (LW cI cB cJ ra oa o σ fr)) D A (some (.int z)) (LW cI cB cJ ra oa o σ' fr)) : LM l yL_read cL_read 6 [(0, 11, 14, 13)] 9 [.ref (ra 0), .int a, .long v, .ref oa] (lPre D A cI cB cJ (LW cI cB cJ ra oa o σ fr)) D A 0 (LW cI cB cJ ra oa (vp_updL o 0 z.toInt64) σ' fr) := by
  refine met_ofWH (cc := cL_read) (maxL := 6) (ret := (some .int)) (hh := [(0, 11, 14, 13)]) (by decide) rfl ?_
  intro p e s m args below meth c s₁ B hml htab hv
  obtain ⟨rfl, hP, hKL, hD, hA, hN, hT, hNX⟩ := hv
  have hK : va_K D vwCl (tyR cI cB) s := hKL.sub [0, 1] rfl
  have hx := B.exec
  have hb := B.bytes
  have hr := B.returns
  have hts : ∀ w ∈ AW, w.before _ s = true := fun w h => atoms_spec (ws := Cond.codeWith yL_read cL_read 6 (some .int) [(0, 11, 14, 13)] :: AW) B.pre w (List.mem_cons_of_mem _ h)
  have hown : s.vm.findClass RL = some m.cls := findClass_of_methodNamed B.named
  have hlocks := B.notSynchronized
  have hS : va_S A s.heap s.heap [] := va_S.rf
  have hl := lv_entry ([.ref (ra 0), .int a, .long v, .ref oa]) (n := 6) (Nat.le_of_ble_eq_true rfl)
  rw [lg_entry_eq]
  generalize (lg_sl ([.ref (ra 0), .int a, .long v, .ref oa]) ++ List.replicate (6 - (lg_sl ([.ref (ra 0), .int a, .long v, .ref oa])).length) Slot.unset).toArray = ls at hl ⊢
  have hl : lv_has ls 6 [(0, .ref (ra 0)), (1, .int a), (2, .long v), (4, .ref oa)] := hl
  refine lv_aload hx hb dL_read_0 (lv_at hl 3 rfl) ?_
  refine lv_iconst (v := 0) hx hb dL_read_2 (by decide) ?_
  refine lv_aload_n hx hb dL_read_3 rfl (lv_at hl 0 rfl) ?_
  refine lv_iload_n hx hb dL_read_4 rfl (lv_at hl 1 rfl) ?_
  refine lv_lload_n hx hb dL_read_5 rfl (lv_at hl 2 rfl) ?_
  refine i_V (C := RX4) (rest := [.int 0, .ref oa]) hx hb hml hown hts hM q155 q156 q157 q21 q158 rfl nX4_read ⟨Nat.le_of_ble_eq_true rfl, Nat.le_of_ble_eq_true rfl⟩ hl.1 rfl rfl (Nat.le_of_ble_eq_true rfl) dL_read_6 ⟨Nat.zero_le _, Nat.zero_le _⟩ rPre_bl (va_recv hK hP (ci := 4) (q0 := 0) rfl rfl) (rPre_go hP hK hD hA hN hT hS) hS (fun H locs hP hS => ?_)
  have hD : va_D A (LW cI cB cJ ra oa o σ' fr) := rw_D (σ' := σ') hD
  refine lv_i2l (v := z.toInt64) hx hb dL_read_9 rfl ?_
  refine va_last (f := o) hx hb hKL hP hD hS 24 2 rfl rfl (show vp_in 0 1 by unfold vp_in; decide) dL_read_10 (fun H locs hP hD hS => ?_)
  refine lv_goto (tgt := 18) hx hb dL_read_11 rfl ?_
  refine lv_iconst (v := 0) hx hb dL_read_18 (by decide) ?_
  refine W.widen (k := 1) (n := 6) (by omega) (by omega) ?_
  exact W.iret hx hb hr (fun t ht hW => ⟨rfl, (by rw [ht]; exact hP), hS.F ht⟩) hS.2.2 dL_read_19
set_option maxHeartbeats 4000000 in
set_option maxRecDepth 100000 in
theorem L_read_IA (l : Launch) (D : va_G) (A : Nat → Prop) (cI cB cJ : ClassId) (ra : Nat → Nat) (oa : Nat) (o : Nat → Int64) (σ σ' : St) (fr : va_W) (a : Int32) (v : Int64) (hM : XM l yX4_read cX4_read 7 (some .int) 7 [.ref (ra 0), .int a, .long v] (rPre D A cI cB (LW cI cB cJ ra oa o σ fr)) xIA D A (LW cI cB cJ ra oa o σ' fr)) : LM l yL_read cL_read 6 [(0, 11, 14, 13)] 9 [.ref (ra 0), .int a, .long v, .ref oa] (lPre D A cI cB cJ (LW cI cB cJ ra oa o σ fr)) D A 1 (LW cI cB cJ ra oa o σ' fr) := by
  refine met_ofWH (cc := cL_read) (maxL := 6) (ret := (some .int)) (hh := [(0, 11, 14, 13)]) (by decide) rfl ?_
  intro p e s m args below meth c s₁ B hml htab hv
  obtain ⟨rfl, hP, hKL, hD, hA, hN, hT, hNX⟩ := hv
  have hK : va_K D vwCl (tyR cI cB) s := hKL.sub [0, 1] rfl
  have hx := B.exec
  have hb := B.bytes
  have hr := B.returns
  have hts : ∀ w ∈ AW, w.before _ s = true := fun w h => atoms_spec (ws := Cond.codeWith yL_read cL_read 6 (some .int) [(0, 11, 14, 13)] :: AW) B.pre w (List.mem_cons_of_mem _ h)
  have hown : s.vm.findClass RL = some m.cls := findClass_of_methodNamed B.named
  have hlocks := B.notSynchronized
  have hS : va_S A s.heap s.heap [] := va_S.rf
  have hl := lv_entry ([.ref (ra 0), .int a, .long v, .ref oa]) (n := 6) (Nat.le_of_ble_eq_true rfl)
  rw [lg_entry_eq]
  generalize (lg_sl ([.ref (ra 0), .int a, .long v, .ref oa]) ++ List.replicate (6 - (lg_sl ([.ref (ra 0), .int a, .long v, .ref oa])).length) Slot.unset).toArray = ls at hl ⊢
  have hl : lv_has ls 6 [(0, .ref (ra 0)), (1, .int a), (2, .long v), (4, .ref oa)] := hl
  refine lv_aload hx hb dL_read_0 (lv_at hl 3 rfl) ?_
  refine lv_iconst (v := 0) hx hb dL_read_2 (by decide) ?_
  refine lv_aload_n hx hb dL_read_3 rfl (lv_at hl 0 rfl) ?_
  refine lv_iload_n hx hb dL_read_4 rfl (lv_at hl 1 rfl) ?_
  refine lv_lload_n hx hb dL_read_5 rfl (lv_at hl 2 rfl) ?_
  refine x_in (C := RX4) (rest := [.int 0, .ref oa]) (tgt := 14) hx hb hml hown hts hM q155 q156 q157 q21 q158 rfl nX4_read ⟨Nat.le_of_ble_eq_true rfl, Nat.le_of_ble_eq_true rfl⟩ hl.1 rfl rfl (Nat.le_of_ble_eq_true rfl) dL_read_6 ⟨Nat.le_of_ble_eq_true rfl, Nat.le_of_ble_eq_true rfl⟩ rPre_bl (va_recv hK hP (ci := 4) (q0 := 0) rfl rfl) (rPre_go hP hK hD hA hN hT hS) hS [] ⟨0, 11, 14, 13⟩ [] htab (fun z hz => by cases hz) (by decide) (by decide) rfl (hts _ q154) (va_Nw.use rfl (hT.2.2.1 _ (by decide))) (fun q H locs hP hS => ?_)
  refine lv_astore (lv' := [(5, .ref q), (0, .ref (ra 0)), (1, .int a), (2, .long v), (4, .ref oa)]) hx hb dL_read_14 hl (by decide) rfl (fun ls hl => ?_)
  refine lv_iconst (v := 1) hx hb dL_read_16 (by decide) ?_
  exact W.iret hx hb hr (fun t ht hW => ⟨rfl, (by rw [ht]; exact hP), hS.F ht⟩) hS.2.2 dL_read_17
set_option maxHeartbeats 4000000 in
set_option maxRecDepth 100000 in
theorem L_order_ok (l : Launch) (D : va_G) (A : Nat → Prop) (cI cB cJ : ClassId) (ra : Nat → Nat) (oa : Nat) (o : Nat → Int64) (σ σ' : St) (fr : va_W) (a : Int32) (b : Int32) (z : Int32) (hM : IM l yX4_order cX4_order 3 (some .int) 2 [.ref (ra 0), .int a, .int b] (rPre D A cI cB (LW cI cB cJ ra oa o σ fr)) D A (some (.int z)) (LW cI cB cJ ra oa o σ' fr)) : LM l yL_order cL_order 5 [(0, 10, 13, 13), (0, 10, 17, 19)] 9 [.ref (ra 0), .int a, .int b, .ref oa] (lPre D A cI cB cJ (LW cI cB cJ ra oa o σ fr)) D A 0 (LW cI cB cJ ra oa (vp_updL o 0 z.toInt64) σ' fr) := by
  refine met_ofWH (cc := cL_order) (maxL := 5) (ret := (some .int)) (hh := [(0, 10, 13, 13), (0, 10, 17, 19)]) (by decide) rfl ?_
  intro p e s m args below meth c s₁ B hml htab hv
  obtain ⟨rfl, hP, hKL, hD, hA, hN, hT, hNX⟩ := hv
  have hK : va_K D vwCl (tyR cI cB) s := hKL.sub [0, 1] rfl
  have hx := B.exec
  have hb := B.bytes
  have hr := B.returns
  have hts : ∀ w ∈ AW, w.before _ s = true := fun w h => atoms_spec (ws := Cond.codeWith yL_order cL_order 5 (some .int) [(0, 10, 13, 13), (0, 10, 17, 19)] :: AW) B.pre w (List.mem_cons_of_mem _ h)
  have hown : s.vm.findClass RL = some m.cls := findClass_of_methodNamed B.named
  have hlocks := B.notSynchronized
  have hS : va_S A s.heap s.heap [] := va_S.rf
  have hl := lv_entry ([.ref (ra 0), .int a, .int b, .ref oa]) (n := 5) (Nat.le_of_ble_eq_true rfl)
  rw [lg_entry_eq]
  generalize (lg_sl ([.ref (ra 0), .int a, .int b, .ref oa]) ++ List.replicate (5 - (lg_sl ([.ref (ra 0), .int a, .int b, .ref oa])).length) Slot.unset).toArray = ls at hl ⊢
  have hl : lv_has ls 5 [(0, .ref (ra 0)), (1, .int a), (2, .int b), (3, .ref oa)] := hl
  refine lv_aload_n hx hb dL_order_0 rfl (lv_at hl 3 rfl) ?_
  refine lv_iconst (v := 0) hx hb dL_order_1 (by decide) ?_
  refine lv_aload_n hx hb dL_order_2 rfl (lv_at hl 0 rfl) ?_
  refine lv_iload_n hx hb dL_order_3 rfl (lv_at hl 1 rfl) ?_
  refine lv_iload_n hx hb dL_order_4 rfl (lv_at hl 2 rfl) ?_
  refine i_V (C := RX4) (rest := [.int 0, .ref oa]) hx hb hml hown hts hM q347 q348 q349 q21 q350 rfl nX4_order ⟨Nat.le_of_ble_eq_true rfl, Nat.le_of_ble_eq_true rfl⟩ hl.1 rfl rfl (Nat.le_of_ble_eq_true rfl) dL_order_5 ⟨Nat.zero_le _, Nat.zero_le _⟩ rPre_bl (va_recv hK hP (ci := 4) (q0 := 0) rfl rfl) (rPre_go hP hK hD hA hN hT hS) hS (fun H locs hP hS => ?_)
  have hD : va_D A (LW cI cB cJ ra oa o σ' fr) := rw_D (σ' := σ') hD
  refine lv_i2l (v := z.toInt64) hx hb dL_order_8 rfl ?_
  refine va_last (f := o) hx hb hKL hP hD hS 24 2 rfl rfl (show vp_in 0 1 by unfold vp_in; decide) dL_order_9 (fun H locs hP hD hS => ?_)
  refine lv_goto (tgt := 21) hx hb dL_order_10 rfl ?_
  refine lv_iconst (v := 0) hx hb dL_order_21 (by decide) ?_
  refine W.widen (k := 1) (n := 6) (by omega) (by omega) ?_
  exact W.iret hx hb hr (fun t ht hW => ⟨rfl, (by rw [ht]; exact hP), hS.F ht⟩) hS.2.2 dL_order_22
set_option maxHeartbeats 4000000 in
set_option maxRecDepth 100000 in
theorem L_order_IA (l : Launch) (D : va_G) (A : Nat → Prop) (cI cB cJ : ClassId) (ra : Nat → Nat) (oa : Nat) (o : Nat → Int64) (σ σ' : St) (fr : va_W) (a : Int32) (b : Int32) (hM : XM l yX4_order cX4_order 3 (some .int) 6 [.ref (ra 0), .int a, .int b] (rPre D A cI cB (LW cI cB cJ ra oa o σ fr)) xIA D A (LW cI cB cJ ra oa o σ' fr)) : LM l yL_order cL_order 5 [(0, 10, 13, 13), (0, 10, 17, 19)] 9 [.ref (ra 0), .int a, .int b, .ref oa] (lPre D A cI cB cJ (LW cI cB cJ ra oa o σ fr)) D A 1 (LW cI cB cJ ra oa o σ' fr) := by
  refine met_ofWH (cc := cL_order) (maxL := 5) (ret := (some .int)) (hh := [(0, 10, 13, 13), (0, 10, 17, 19)]) (by decide) rfl ?_
  intro p e s m args below meth c s₁ B hml htab hv
  obtain ⟨rfl, hP, hKL, hD, hA, hN, hT, hNX⟩ := hv
  have hK : va_K D vwCl (tyR cI cB) s := hKL.sub [0, 1] rfl
  have hx := B.exec
  have hb := B.bytes
  have hr := B.returns
  have hts : ∀ w ∈ AW, w.before _ s = true := fun w h => atoms_spec (ws := Cond.codeWith yL_order cL_order 5 (some .int) [(0, 10, 13, 13), (0, 10, 17, 19)] :: AW) B.pre w (List.mem_cons_of_mem _ h)
  have hown : s.vm.findClass RL = some m.cls := findClass_of_methodNamed B.named
  have hlocks := B.notSynchronized
  have hS : va_S A s.heap s.heap [] := va_S.rf
  have hl := lv_entry ([.ref (ra 0), .int a, .int b, .ref oa]) (n := 5) (Nat.le_of_ble_eq_true rfl)
  rw [lg_entry_eq]
  generalize (lg_sl ([.ref (ra 0), .int a, .int b, .ref oa]) ++ List.replicate (5 - (lg_sl ([.ref (ra 0), .int a, .int b, .ref oa])).length) Slot.unset).toArray = ls at hl ⊢
  have hl : lv_has ls 5 [(0, .ref (ra 0)), (1, .int a), (2, .int b), (3, .ref oa)] := hl
  refine lv_aload_n hx hb dL_order_0 rfl (lv_at hl 3 rfl) ?_
  refine lv_iconst (v := 0) hx hb dL_order_1 (by decide) ?_
  refine lv_aload_n hx hb dL_order_2 rfl (lv_at hl 0 rfl) ?_
  refine lv_iload_n hx hb dL_order_3 rfl (lv_at hl 1 rfl) ?_
  refine lv_iload_n hx hb dL_order_4 rfl (lv_at hl 2 rfl) ?_
  refine x_in (C := RX4) (rest := [.int 0, .ref oa]) (tgt := 13) hx hb hml hown hts hM q347 q348 q349 q21 q350 rfl nX4_order ⟨Nat.le_of_ble_eq_true rfl, Nat.le_of_ble_eq_true rfl⟩ hl.1 rfl rfl (Nat.le_of_ble_eq_true rfl) dL_order_5 ⟨Nat.le_of_ble_eq_true rfl, Nat.le_of_ble_eq_true rfl⟩ rPre_bl (va_recv hK hP (ci := 4) (q0 := 0) rfl rfl) (rPre_go hP hK hD hA hN hT hS) hS [] ⟨0, 10, 13, 13⟩ [⟨0, 10, 17, 19⟩] htab (fun z hz => by cases hz) (by decide) (by decide) rfl (hts _ q154) (va_Nw.use rfl (hT.2.2.1 _ (by decide))) (fun q H locs hP hS => ?_)
  refine lv_astore (lv' := [(4, .ref q), (0, .ref (ra 0)), (1, .int a), (2, .int b), (3, .ref oa)]) hx hb dL_order_13 hl (by decide) rfl (fun ls hl => ?_)
  refine lv_iconst (v := 1) hx hb dL_order_15 (by decide) ?_
  exact W.iret hx hb hr (fun t ht hW => ⟨rfl, (by rw [ht]; exact hP), hS.F ht⟩) hS.2.2 dL_order_16
set_option maxHeartbeats 4000000 in
set_option maxRecDepth 100000 in
theorem L_order_IS (l : Launch) (D : va_G) (A : Nat → Prop) (cI cB cJ : ClassId) (ra : Nat → Nat) (oa : Nat) (o : Nat → Int64) (σ σ' : St) (fr : va_W) (a : Int32) (b : Int32) (hM : XM l yX4_order cX4_order 3 (some .int) 6 [.ref (ra 0), .int a, .int b] (rPre D A cI cB (LW cI cB cJ ra oa o σ fr)) xIS D A (LW cI cB cJ ra oa o σ' fr)) : LM l yL_order cL_order 5 [(0, 10, 13, 13), (0, 10, 17, 19)] 9 [.ref (ra 0), .int a, .int b, .ref oa] (lPre D A cI cB cJ (LW cI cB cJ ra oa o σ fr)) D A 2 (LW cI cB cJ ra oa o σ' fr) := by
  refine met_ofWH (cc := cL_order) (maxL := 5) (ret := (some .int)) (hh := [(0, 10, 13, 13), (0, 10, 17, 19)]) (by decide) rfl ?_
  intro p e s m args below meth c s₁ B hml htab hv
  obtain ⟨rfl, hP, hKL, hD, hA, hN, hT, hNX⟩ := hv
  have hK : va_K D vwCl (tyR cI cB) s := hKL.sub [0, 1] rfl
  have hx := B.exec
  have hb := B.bytes
  have hr := B.returns
  have hts : ∀ w ∈ AW, w.before _ s = true := fun w h => atoms_spec (ws := Cond.codeWith yL_order cL_order 5 (some .int) [(0, 10, 13, 13), (0, 10, 17, 19)] :: AW) B.pre w (List.mem_cons_of_mem _ h)
  have hown : s.vm.findClass RL = some m.cls := findClass_of_methodNamed B.named
  have hlocks := B.notSynchronized
  have hS : va_S A s.heap s.heap [] := va_S.rf
  have hl := lv_entry ([.ref (ra 0), .int a, .int b, .ref oa]) (n := 5) (Nat.le_of_ble_eq_true rfl)
  rw [lg_entry_eq]
  generalize (lg_sl ([.ref (ra 0), .int a, .int b, .ref oa]) ++ List.replicate (5 - (lg_sl ([.ref (ra 0), .int a, .int b, .ref oa])).length) Slot.unset).toArray = ls at hl ⊢
  have hl : lv_has ls 5 [(0, .ref (ra 0)), (1, .int a), (2, .int b), (3, .ref oa)] := hl
  refine lv_aload_n hx hb dL_order_0 rfl (lv_at hl 3 rfl) ?_
  refine lv_iconst (v := 0) hx hb dL_order_1 (by decide) ?_
  refine lv_aload_n hx hb dL_order_2 rfl (lv_at hl 0 rfl) ?_
  refine lv_iload_n hx hb dL_order_3 rfl (lv_at hl 1 rfl) ?_
  refine lv_iload_n hx hb dL_order_4 rfl (lv_at hl 2 rfl) ?_
  refine x_in (C := RX4) (rest := [.int 0, .ref oa]) (tgt := 17) hx hb hml hown hts hM q347 q348 q349 q21 q350 rfl nX4_order ⟨Nat.le_of_ble_eq_true rfl, Nat.le_of_ble_eq_true rfl⟩ hl.1 rfl rfl (Nat.le_of_ble_eq_true rfl) dL_order_5 ⟨Nat.le_of_ble_eq_true rfl, Nat.le_of_ble_eq_true rfl⟩ rPre_bl (va_recv hK hP (ci := 4) (q0 := 0) rfl rfl) (rPre_go hP hK hD hA hN hT hS) hS [⟨0, 10, 13, 13⟩] ⟨0, 10, 17, 19⟩ [] htab (fun z hz => by cases hz with | head => exact Or.inr ⟨by decide, xIA, hts _ q154, hNX.1⟩ | tail _ h => cases h) (by decide) (by decide) rfl (hts _ q346) (va_Nw.use rfl (hT.2.2.1 _ (by decide))) (fun q H locs hP hS => ?_)
  refine lv_astore (lv' := [(4, .ref q), (0, .ref (ra 0)), (1, .int a), (2, .int b), (3, .ref oa)]) hx hb dL_order_17 hl (by decide) rfl (fun ls hl => ?_)
  refine lv_iconst (v := 2) hx hb dL_order_19 (by decide) ?_
  exact W.iret hx hb hr (fun t ht hW => ⟨rfl, (by rw [ht]; exact hP), hS.F ht⟩) hS.2.2 dL_order_20
set_option maxHeartbeats 4000000 in
set_option maxRecDepth 100000 in
theorem L_show_ok (l : Launch) (D : va_G) (A : Nat → Prop) (cI cB cJ : ClassId) (ra : Nat → Nat) (oa : Nat) (o : Nat → Int64) (σ σ' : St) (fr : va_W) (a : Int32) (z : Int64) (hM : IM l yX4_show cX4_show 2 (some .long) 8 [.ref (ra 0), .int a] (rPre D A cI cB (LW cI cB cJ ra oa o σ fr)) D A (some (.long z)) (LW cI cB cJ ra oa o σ' fr)) : LM l yL_show cL_show 4 [(0, 8, 11, 13), (0, 8, 14, 19), (0, 8, 17, 25)] 9 [.ref (ra 0), .int a, .ref oa] (lPre D A cI cB cJ (LW cI cB cJ ra oa o σ fr)) D A 0 (LW cI cB cJ ra oa (vp_updL o 0 z) σ' fr) := by
  refine met_ofWH (cc := cL_show) (maxL := 4) (ret := (some .int)) (hh := [(0, 8, 11, 13), (0, 8, 14, 19), (0, 8, 17, 25)]) (by decide) rfl ?_
  intro p e s m args below meth c s₁ B hml htab hv
  obtain ⟨rfl, hP, hKL, hD, hA, hN, hT, hNX⟩ := hv
  have hK : va_K D vwCl (tyR cI cB) s := hKL.sub [0, 1] rfl
  have hx := B.exec
  have hb := B.bytes
  have hr := B.returns
  have hts : ∀ w ∈ AW, w.before _ s = true := fun w h => atoms_spec (ws := Cond.codeWith yL_show cL_show 4 (some .int) [(0, 8, 11, 13), (0, 8, 14, 19), (0, 8, 17, 25)] :: AW) B.pre w (List.mem_cons_of_mem _ h)
  have hown : s.vm.findClass RL = some m.cls := findClass_of_methodNamed B.named
  have hlocks := B.notSynchronized
  have hS : va_S A s.heap s.heap [] := va_S.rf
  have hl := lv_entry ([.ref (ra 0), .int a, .ref oa]) (n := 4) (Nat.le_of_ble_eq_true rfl)
  rw [lg_entry_eq]
  generalize (lg_sl ([.ref (ra 0), .int a, .ref oa]) ++ List.replicate (4 - (lg_sl ([.ref (ra 0), .int a, .ref oa])).length) Slot.unset).toArray = ls at hl ⊢
  have hl : lv_has ls 4 [(0, .ref (ra 0)), (1, .int a), (2, .ref oa)] := hl
  refine lv_aload_n hx hb dL_show_0 rfl (lv_at hl 2 rfl) ?_
  refine lv_iconst (v := 0) hx hb dL_show_1 (by decide) ?_
  refine lv_aload_n hx hb dL_show_2 rfl (lv_at hl 0 rfl) ?_
  refine lv_iload_n hx hb dL_show_3 rfl (lv_at hl 1 rfl) ?_
  refine i_V (C := RX4) (rest := [.int 0, .ref oa]) hx hb hml hown hts hM q397 q398 q399 q21 q400 rfl nX4_show ⟨Nat.le_of_ble_eq_true rfl, Nat.le_of_ble_eq_true rfl⟩ hl.1 rfl rfl (Nat.le_of_ble_eq_true rfl) dL_show_4 ⟨Nat.zero_le _, Nat.zero_le _⟩ rPre_bl (va_recv hK hP (ci := 4) (q0 := 0) rfl rfl) (rPre_go hP hK hD hA hN hT hS) hS (fun H locs hP hS => ?_)
  have hD : va_D A (LW cI cB cJ ra oa o σ' fr) := rw_D (σ' := σ') hD
  refine va_last (f := o) hx hb hKL hP hD hS 24 2 rfl rfl (show vp_in 0 1 by unfold vp_in; decide) dL_show_7 (fun H locs hP hD hS => ?_)
  refine lv_goto (tgt := 20) hx hb dL_show_8 rfl ?_
  refine lv_iconst (v := 0) hx hb dL_show_20 (by decide) ?_
  refine W.widen (k := 1) (n := 6) (by omega) (by omega) ?_
  exact W.iret hx hb hr (fun t ht hW => ⟨rfl, (by rw [ht]; exact hP), hS.F ht⟩) hS.2.2 dL_show_21
set_option maxHeartbeats 4000000 in
set_option maxRecDepth 100000 in
theorem L_show_IA (l : Launch) (D : va_G) (A : Nat → Prop) (cI cB cJ : ClassId) (ra : Nat → Nat) (oa : Nat) (o : Nat → Int64) (σ σ' : St) (fr : va_W) (a : Int32) (hM : XM l yX4_show cX4_show 2 (some .long) 8 [.ref (ra 0), .int a] (rPre D A cI cB (LW cI cB cJ ra oa o σ fr)) xIA D A (LW cI cB cJ ra oa o σ' fr)) : LM l yL_show cL_show 4 [(0, 8, 11, 13), (0, 8, 14, 19), (0, 8, 17, 25)] 9 [.ref (ra 0), .int a, .ref oa] (lPre D A cI cB cJ (LW cI cB cJ ra oa o σ fr)) D A 1 (LW cI cB cJ ra oa o σ' fr) := by
  refine met_ofWH (cc := cL_show) (maxL := 4) (ret := (some .int)) (hh := [(0, 8, 11, 13), (0, 8, 14, 19), (0, 8, 17, 25)]) (by decide) rfl ?_
  intro p e s m args below meth c s₁ B hml htab hv
  obtain ⟨rfl, hP, hKL, hD, hA, hN, hT, hNX⟩ := hv
  have hK : va_K D vwCl (tyR cI cB) s := hKL.sub [0, 1] rfl
  have hx := B.exec
  have hb := B.bytes
  have hr := B.returns
  have hts : ∀ w ∈ AW, w.before _ s = true := fun w h => atoms_spec (ws := Cond.codeWith yL_show cL_show 4 (some .int) [(0, 8, 11, 13), (0, 8, 14, 19), (0, 8, 17, 25)] :: AW) B.pre w (List.mem_cons_of_mem _ h)
  have hown : s.vm.findClass RL = some m.cls := findClass_of_methodNamed B.named
  have hlocks := B.notSynchronized
  have hS : va_S A s.heap s.heap [] := va_S.rf
  have hl := lv_entry ([.ref (ra 0), .int a, .ref oa]) (n := 4) (Nat.le_of_ble_eq_true rfl)
  rw [lg_entry_eq]
  generalize (lg_sl ([.ref (ra 0), .int a, .ref oa]) ++ List.replicate (4 - (lg_sl ([.ref (ra 0), .int a, .ref oa])).length) Slot.unset).toArray = ls at hl ⊢
  have hl : lv_has ls 4 [(0, .ref (ra 0)), (1, .int a), (2, .ref oa)] := hl
  refine lv_aload_n hx hb dL_show_0 rfl (lv_at hl 2 rfl) ?_
  refine lv_iconst (v := 0) hx hb dL_show_1 (by decide) ?_
  refine lv_aload_n hx hb dL_show_2 rfl (lv_at hl 0 rfl) ?_
  refine lv_iload_n hx hb dL_show_3 rfl (lv_at hl 1 rfl) ?_
  refine x_in (C := RX4) (rest := [.int 0, .ref oa]) (tgt := 11) hx hb hml hown hts hM q397 q398 q399 q21 q400 rfl nX4_show ⟨Nat.le_of_ble_eq_true rfl, Nat.le_of_ble_eq_true rfl⟩ hl.1 rfl rfl (Nat.le_of_ble_eq_true rfl) dL_show_4 ⟨Nat.le_of_ble_eq_true rfl, Nat.le_of_ble_eq_true rfl⟩ rPre_bl (va_recv hK hP (ci := 4) (q0 := 0) rfl rfl) (rPre_go hP hK hD hA hN hT hS) hS [] ⟨0, 8, 11, 13⟩ [⟨0, 8, 14, 19⟩, ⟨0, 8, 17, 25⟩] htab (fun z hz => by cases hz) (by decide) (by decide) rfl (hts _ q154) (va_Nw.use rfl (hT.2.2.1 _ (by decide))) (fun q H locs hP hS => ?_)
  refine lv_astore_n (lv' := [(3, .ref q), (0, .ref (ra 0)), (1, .int a), (2, .ref oa)]) hx hb dL_show_11 rfl hl (by decide) rfl (fun ls hl => ?_)
  refine lv_iconst (v := 1) hx hb dL_show_12 (by decide) ?_
  exact W.iret hx hb hr (fun t ht hW => ⟨rfl, (by rw [ht]; exact hP), hS.F ht⟩) hS.2.2 dL_show_13
set_option maxHeartbeats 4000000 in
set_option maxRecDepth 100000 in
theorem L_show_IS (l : Launch) (D : va_G) (A : Nat → Prop) (cI cB cJ : ClassId) (ra : Nat → Nat) (oa : Nat) (o : Nat → Int64) (σ σ' : St) (fr : va_W) (a : Int32) (hM : XM l yX4_show cX4_show 2 (some .long) 8 [.ref (ra 0), .int a] (rPre D A cI cB (LW cI cB cJ ra oa o σ fr)) xIS D A (LW cI cB cJ ra oa o σ' fr)) : LM l yL_show cL_show 4 [(0, 8, 11, 13), (0, 8, 14, 19), (0, 8, 17, 25)] 9 [.ref (ra 0), .int a, .ref oa] (lPre D A cI cB cJ (LW cI cB cJ ra oa o σ fr)) D A 2 (LW cI cB cJ ra oa o σ' fr) := by
  refine met_ofWH (cc := cL_show) (maxL := 4) (ret := (some .int)) (hh := [(0, 8, 11, 13), (0, 8, 14, 19), (0, 8, 17, 25)]) (by decide) rfl ?_
  intro p e s m args below meth c s₁ B hml htab hv
  obtain ⟨rfl, hP, hKL, hD, hA, hN, hT, hNX⟩ := hv
  have hK : va_K D vwCl (tyR cI cB) s := hKL.sub [0, 1] rfl
  have hx := B.exec
  have hb := B.bytes
  have hr := B.returns
  have hts : ∀ w ∈ AW, w.before _ s = true := fun w h => atoms_spec (ws := Cond.codeWith yL_show cL_show 4 (some .int) [(0, 8, 11, 13), (0, 8, 14, 19), (0, 8, 17, 25)] :: AW) B.pre w (List.mem_cons_of_mem _ h)
  have hown : s.vm.findClass RL = some m.cls := findClass_of_methodNamed B.named
  have hlocks := B.notSynchronized
  have hS : va_S A s.heap s.heap [] := va_S.rf
  have hl := lv_entry ([.ref (ra 0), .int a, .ref oa]) (n := 4) (Nat.le_of_ble_eq_true rfl)
  rw [lg_entry_eq]
  generalize (lg_sl ([.ref (ra 0), .int a, .ref oa]) ++ List.replicate (4 - (lg_sl ([.ref (ra 0), .int a, .ref oa])).length) Slot.unset).toArray = ls at hl ⊢
  have hl : lv_has ls 4 [(0, .ref (ra 0)), (1, .int a), (2, .ref oa)] := hl
  refine lv_aload_n hx hb dL_show_0 rfl (lv_at hl 2 rfl) ?_
  refine lv_iconst (v := 0) hx hb dL_show_1 (by decide) ?_
  refine lv_aload_n hx hb dL_show_2 rfl (lv_at hl 0 rfl) ?_
  refine lv_iload_n hx hb dL_show_3 rfl (lv_at hl 1 rfl) ?_
  refine x_in (C := RX4) (rest := [.int 0, .ref oa]) (tgt := 14) hx hb hml hown hts hM q397 q398 q399 q21 q400 rfl nX4_show ⟨Nat.le_of_ble_eq_true rfl, Nat.le_of_ble_eq_true rfl⟩ hl.1 rfl rfl (Nat.le_of_ble_eq_true rfl) dL_show_4 ⟨Nat.le_of_ble_eq_true rfl, Nat.le_of_ble_eq_true rfl⟩ rPre_bl (va_recv hK hP (ci := 4) (q0 := 0) rfl rfl) (rPre_go hP hK hD hA hN hT hS) hS [⟨0, 8, 11, 13⟩] ⟨0, 8, 14, 19⟩ [⟨0, 8, 17, 25⟩] htab (fun z hz => by cases hz with | head => exact Or.inr ⟨by decide, xIA, hts _ q154, hNX.1⟩ | tail _ h => cases h) (by decide) (by decide) rfl (hts _ q346) (va_Nw.use rfl (hT.2.2.1 _ (by decide))) (fun q H locs hP hS => ?_)
  refine lv_astore_n (lv' := [(3, .ref q), (0, .ref (ra 0)), (1, .int a), (2, .ref oa)]) hx hb dL_show_14 rfl hl (by decide) rfl (fun ls hl => ?_)
  refine lv_iconst (v := 2) hx hb dL_show_15 (by decide) ?_
  exact W.iret hx hb hr (fun t ht hW => ⟨rfl, (by rw [ht]; exact hP), hS.F ht⟩) hS.2.2 dL_show_16
set_option maxHeartbeats 4000000 in
set_option maxRecDepth 100000 in
theorem L_show_AR (l : Launch) (D : va_G) (A : Nat → Prop) (cI cB cJ : ClassId) (ra : Nat → Nat) (oa : Nat) (o : Nat → Int64) (σ σ' : St) (fr : va_W) (a : Int32) (hM : XM l yX4_show cX4_show 2 (some .long) 8 [.ref (ra 0), .int a] (rPre D A cI cB (LW cI cB cJ ra oa o σ fr)) xAR D A (LW cI cB cJ ra oa o σ' fr)) : LM l yL_show cL_show 4 [(0, 8, 11, 13), (0, 8, 14, 19), (0, 8, 17, 25)] 9 [.ref (ra 0), .int a, .ref oa] (lPre D A cI cB cJ (LW cI cB cJ ra oa o σ fr)) D A 3 (LW cI cB cJ ra oa o σ' fr) := by
  refine met_ofWH (cc := cL_show) (maxL := 4) (ret := (some .int)) (hh := [(0, 8, 11, 13), (0, 8, 14, 19), (0, 8, 17, 25)]) (by decide) rfl ?_
  intro p e s m args below meth c s₁ B hml htab hv
  obtain ⟨rfl, hP, hKL, hD, hA, hN, hT, hNX⟩ := hv
  have hK : va_K D vwCl (tyR cI cB) s := hKL.sub [0, 1] rfl
  have hx := B.exec
  have hb := B.bytes
  have hr := B.returns
  have hts : ∀ w ∈ AW, w.before _ s = true := fun w h => atoms_spec (ws := Cond.codeWith yL_show cL_show 4 (some .int) [(0, 8, 11, 13), (0, 8, 14, 19), (0, 8, 17, 25)] :: AW) B.pre w (List.mem_cons_of_mem _ h)
  have hown : s.vm.findClass RL = some m.cls := findClass_of_methodNamed B.named
  have hlocks := B.notSynchronized
  have hS : va_S A s.heap s.heap [] := va_S.rf
  have hl := lv_entry ([.ref (ra 0), .int a, .ref oa]) (n := 4) (Nat.le_of_ble_eq_true rfl)
  rw [lg_entry_eq]
  generalize (lg_sl ([.ref (ra 0), .int a, .ref oa]) ++ List.replicate (4 - (lg_sl ([.ref (ra 0), .int a, .ref oa])).length) Slot.unset).toArray = ls at hl ⊢
  have hl : lv_has ls 4 [(0, .ref (ra 0)), (1, .int a), (2, .ref oa)] := hl
  refine lv_aload_n hx hb dL_show_0 rfl (lv_at hl 2 rfl) ?_
  refine lv_iconst (v := 0) hx hb dL_show_1 (by decide) ?_
  refine lv_aload_n hx hb dL_show_2 rfl (lv_at hl 0 rfl) ?_
  refine lv_iload_n hx hb dL_show_3 rfl (lv_at hl 1 rfl) ?_
  refine x_in (C := RX4) (rest := [.int 0, .ref oa]) (tgt := 17) hx hb hml hown hts hM q397 q398 q399 q21 q400 rfl nX4_show ⟨Nat.le_of_ble_eq_true rfl, Nat.le_of_ble_eq_true rfl⟩ hl.1 rfl rfl (Nat.le_of_ble_eq_true rfl) dL_show_4 ⟨Nat.le_of_ble_eq_true rfl, Nat.le_of_ble_eq_true rfl⟩ rPre_bl (va_recv hK hP (ci := 4) (q0 := 0) rfl rfl) (rPre_go hP hK hD hA hN hT hS) hS [⟨0, 8, 11, 13⟩, ⟨0, 8, 14, 19⟩] ⟨0, 8, 17, 25⟩ [] htab (fun z hz => by cases hz with | head => exact Or.inr ⟨by decide, xIA, hts _ q154, hNX.2.1⟩ | tail _ h => cases h with | head => exact Or.inr ⟨by decide, xIS, hts _ q346, hNX.2.2⟩ | tail _ h => cases h) (by decide) (by decide) rfl (hts _ q378) (va_Nw.use rfl (hT.2.2.1 _ (by decide))) (fun q H locs hP hS => ?_)
  refine lv_astore_n (lv' := [(3, .ref q), (0, .ref (ra 0)), (1, .int a), (2, .ref oa)]) hx hb dL_show_17 rfl hl (by decide) rfl (fun ls hl => ?_)
  refine lv_iconst (v := 3) hx hb dL_show_18 (by decide) ?_
  exact W.iret hx hb hr (fun t ht hW => ⟨rfl, (by rw [ht]; exact hP), hS.F ht⟩) hS.2.2 dL_show_19
set_option maxHeartbeats 4000000 in
set_option maxRecDepth 100000 in
theorem L_keep_ok (l : Launch) (D : va_G) (A : Nat → Prop) (cI cB cJ : ClassId) (ra : Nat → Nat) (oa : Nat) (o : Nat → Int64) (σ σ' : St) (fr : va_W) (a : Int32) (z : Int32) (hM : IM l yX4_keep cX4_keep 4 (some .int) 8 [.ref (ra 0), .int a] (rPre D A cI cB (LW cI cB cJ ra oa o σ fr)) D A (some (.int z)) (LW cI cB cJ ra oa o σ' fr)) : LM l yL_keep cL_keep 4 [(0, 9, 12, 13), (0, 9, 15, 19), (0, 9, 18, 25)] 9 [.ref (ra 0), .int a, .ref oa] (lPre D A cI cB cJ (LW cI cB cJ ra oa o σ fr)) D A 0 (LW cI cB cJ ra oa (vp_updL o 0 z.toInt64) σ' fr) := by
  refine met_ofWH (cc := cL_keep) (maxL := 4) (ret := (some .int)) (hh := [(0, 9, 12, 13), (0, 9, 15, 19), (0, 9, 18, 25)]) (by decide) rfl ?_
  intro p e s m args below meth c s₁ B hml htab hv
  obtain ⟨rfl, hP, hKL, hD, hA, hN, hT, hNX⟩ := hv
  have hK : va_K D vwCl (tyR cI cB) s := hKL.sub [0, 1] rfl
  have hx := B.exec
  have hb := B.bytes
  have hr := B.returns
  have hts : ∀ w ∈ AW, w.before _ s = true := fun w h => atoms_spec (ws := Cond.codeWith yL_keep cL_keep 4 (some .int) [(0, 9, 12, 13), (0, 9, 15, 19), (0, 9, 18, 25)] :: AW) B.pre w (List.mem_cons_of_mem _ h)
  have hown : s.vm.findClass RL = some m.cls := findClass_of_methodNamed B.named
  have hlocks := B.notSynchronized
  have hS : va_S A s.heap s.heap [] := va_S.rf
  have hl := lv_entry ([.ref (ra 0), .int a, .ref oa]) (n := 4) (Nat.le_of_ble_eq_true rfl)
  rw [lg_entry_eq]
  generalize (lg_sl ([.ref (ra 0), .int a, .ref oa]) ++ List.replicate (4 - (lg_sl ([.ref (ra 0), .int a, .ref oa])).length) Slot.unset).toArray = ls at hl ⊢
  have hl : lv_has ls 4 [(0, .ref (ra 0)), (1, .int a), (2, .ref oa)] := hl
  refine lv_aload_n hx hb dL_keep_0 rfl (lv_at hl 2 rfl) ?_
  refine lv_iconst (v := 0) hx hb dL_keep_1 (by decide) ?_
  refine lv_aload_n hx hb dL_keep_2 rfl (lv_at hl 0 rfl) ?_
  refine lv_iload_n hx hb dL_keep_3 rfl (lv_at hl 1 rfl) ?_
  refine i_V (C := RX4) (rest := [.int 0, .ref oa]) hx hb hml hown hts hM q528 q529 q530 q21 q531 rfl nX4_keep ⟨Nat.le_of_ble_eq_true rfl, Nat.le_of_ble_eq_true rfl⟩ hl.1 rfl rfl (Nat.le_of_ble_eq_true rfl) dL_keep_4 ⟨Nat.zero_le _, Nat.zero_le _⟩ rPre_bl (va_recv hK hP (ci := 4) (q0 := 0) rfl rfl) (rPre_go hP hK hD hA hN hT hS) hS (fun H locs hP hS => ?_)
  have hD : va_D A (LW cI cB cJ ra oa o σ' fr) := rw_D (σ' := σ') hD
  refine lv_i2l (v := z.toInt64) hx hb dL_keep_7 rfl ?_
  refine va_last (f := o) hx hb hKL hP hD hS 24 2 rfl rfl (show vp_in 0 1 by unfold vp_in; decide) dL_keep_8 (fun H locs hP hD hS => ?_)
  refine lv_goto (tgt := 21) hx hb dL_keep_9 rfl ?_
  refine lv_iconst (v := 0) hx hb dL_keep_21 (by decide) ?_
  refine W.widen (k := 1) (n := 6) (by omega) (by omega) ?_
  exact W.iret hx hb hr (fun t ht hW => ⟨rfl, (by rw [ht]; exact hP), hS.F ht⟩) hS.2.2 dL_keep_22
set_option maxHeartbeats 4000000 in
set_option maxRecDepth 100000 in
theorem L_keep_IA (l : Launch) (D : va_G) (A : Nat → Prop) (cI cB cJ : ClassId) (ra : Nat → Nat) (oa : Nat) (o : Nat → Int64) (σ σ' : St) (fr : va_W) (a : Int32) (hM : XM l yX4_keep cX4_keep 4 (some .int) 8 [.ref (ra 0), .int a] (rPre D A cI cB (LW cI cB cJ ra oa o σ fr)) xIA D A (LW cI cB cJ ra oa o σ' fr)) : LM l yL_keep cL_keep 4 [(0, 9, 12, 13), (0, 9, 15, 19), (0, 9, 18, 25)] 9 [.ref (ra 0), .int a, .ref oa] (lPre D A cI cB cJ (LW cI cB cJ ra oa o σ fr)) D A 1 (LW cI cB cJ ra oa o σ' fr) := by
  refine met_ofWH (cc := cL_keep) (maxL := 4) (ret := (some .int)) (hh := [(0, 9, 12, 13), (0, 9, 15, 19), (0, 9, 18, 25)]) (by decide) rfl ?_
  intro p e s m args below meth c s₁ B hml htab hv
  obtain ⟨rfl, hP, hKL, hD, hA, hN, hT, hNX⟩ := hv
  have hK : va_K D vwCl (tyR cI cB) s := hKL.sub [0, 1] rfl
  have hx := B.exec
  have hb := B.bytes
  have hr := B.returns
  have hts : ∀ w ∈ AW, w.before _ s = true := fun w h => atoms_spec (ws := Cond.codeWith yL_keep cL_keep 4 (some .int) [(0, 9, 12, 13), (0, 9, 15, 19), (0, 9, 18, 25)] :: AW) B.pre w (List.mem_cons_of_mem _ h)
  have hown : s.vm.findClass RL = some m.cls := findClass_of_methodNamed B.named
  have hlocks := B.notSynchronized
  have hS : va_S A s.heap s.heap [] := va_S.rf
  have hl := lv_entry ([.ref (ra 0), .int a, .ref oa]) (n := 4) (Nat.le_of_ble_eq_true rfl)
  rw [lg_entry_eq]
  generalize (lg_sl ([.ref (ra 0), .int a, .ref oa]) ++ List.replicate (4 - (lg_sl ([.ref (ra 0), .int a, .ref oa])).length) Slot.unset).toArray = ls at hl ⊢
  have hl : lv_has ls 4 [(0, .ref (ra 0)), (1, .int a), (2, .ref oa)] := hl
  refine lv_aload_n hx hb dL_keep_0 rfl (lv_at hl 2 rfl) ?_
  refine lv_iconst (v := 0) hx hb dL_keep_1 (by decide) ?_
  refine lv_aload_n hx hb dL_keep_2 rfl (lv_at hl 0 rfl) ?_
  refine lv_iload_n hx hb dL_keep_3 rfl (lv_at hl 1 rfl) ?_
  refine x_in (C := RX4) (rest := [.int 0, .ref oa]) (tgt := 12) hx hb hml hown hts hM q528 q529 q530 q21 q531 rfl nX4_keep ⟨Nat.le_of_ble_eq_true rfl, Nat.le_of_ble_eq_true rfl⟩ hl.1 rfl rfl (Nat.le_of_ble_eq_true rfl) dL_keep_4 ⟨Nat.le_of_ble_eq_true rfl, Nat.le_of_ble_eq_true rfl⟩ rPre_bl (va_recv hK hP (ci := 4) (q0 := 0) rfl rfl) (rPre_go hP hK hD hA hN hT hS) hS [] ⟨0, 9, 12, 13⟩ [⟨0, 9, 15, 19⟩, ⟨0, 9, 18, 25⟩] htab (fun z hz => by cases hz) (by decide) (by decide) rfl (hts _ q154) (va_Nw.use rfl (hT.2.2.1 _ (by decide))) (fun q H locs hP hS => ?_)
  refine lv_astore_n (lv' := [(3, .ref q), (0, .ref (ra 0)), (1, .int a), (2, .ref oa)]) hx hb dL_keep_12 rfl hl (by decide) rfl (fun ls hl => ?_)
  refine lv_iconst (v := 1) hx hb dL_keep_13 (by decide) ?_
  exact W.iret hx hb hr (fun t ht hW => ⟨rfl, (by rw [ht]; exact hP), hS.F ht⟩) hS.2.2 dL_keep_14
set_option maxHeartbeats 4000000 in
set_option maxRecDepth 100000 in
theorem L_keep_IS (l : Launch) (D : va_G) (A : Nat → Prop) (cI cB cJ : ClassId) (ra : Nat → Nat) (oa : Nat) (o : Nat → Int64) (σ σ' : St) (fr : va_W) (a : Int32) (hM : XM l yX4_keep cX4_keep 4 (some .int) 8 [.ref (ra 0), .int a] (rPre D A cI cB (LW cI cB cJ ra oa o σ fr)) xIS D A (LW cI cB cJ ra oa o σ' fr)) : LM l yL_keep cL_keep 4 [(0, 9, 12, 13), (0, 9, 15, 19), (0, 9, 18, 25)] 9 [.ref (ra 0), .int a, .ref oa] (lPre D A cI cB cJ (LW cI cB cJ ra oa o σ fr)) D A 2 (LW cI cB cJ ra oa o σ' fr) := by
  refine met_ofWH (cc := cL_keep) (maxL := 4) (ret := (some .int)) (hh := [(0, 9, 12, 13), (0, 9, 15, 19), (0, 9, 18, 25)]) (by decide) rfl ?_
  intro p e s m args below meth c s₁ B hml htab hv
  obtain ⟨rfl, hP, hKL, hD, hA, hN, hT, hNX⟩ := hv
  have hK : va_K D vwCl (tyR cI cB) s := hKL.sub [0, 1] rfl
  have hx := B.exec
  have hb := B.bytes
  have hr := B.returns
  have hts : ∀ w ∈ AW, w.before _ s = true := fun w h => atoms_spec (ws := Cond.codeWith yL_keep cL_keep 4 (some .int) [(0, 9, 12, 13), (0, 9, 15, 19), (0, 9, 18, 25)] :: AW) B.pre w (List.mem_cons_of_mem _ h)
  have hown : s.vm.findClass RL = some m.cls := findClass_of_methodNamed B.named
  have hlocks := B.notSynchronized
  have hS : va_S A s.heap s.heap [] := va_S.rf
  have hl := lv_entry ([.ref (ra 0), .int a, .ref oa]) (n := 4) (Nat.le_of_ble_eq_true rfl)
  rw [lg_entry_eq]
  generalize (lg_sl ([.ref (ra 0), .int a, .ref oa]) ++ List.replicate (4 - (lg_sl ([.ref (ra 0), .int a, .ref oa])).length) Slot.unset).toArray = ls at hl ⊢
  have hl : lv_has ls 4 [(0, .ref (ra 0)), (1, .int a), (2, .ref oa)] := hl
  refine lv_aload_n hx hb dL_keep_0 rfl (lv_at hl 2 rfl) ?_
  refine lv_iconst (v := 0) hx hb dL_keep_1 (by decide) ?_
  refine lv_aload_n hx hb dL_keep_2 rfl (lv_at hl 0 rfl) ?_
  refine lv_iload_n hx hb dL_keep_3 rfl (lv_at hl 1 rfl) ?_
  refine x_in (C := RX4) (rest := [.int 0, .ref oa]) (tgt := 15) hx hb hml hown hts hM q528 q529 q530 q21 q531 rfl nX4_keep ⟨Nat.le_of_ble_eq_true rfl, Nat.le_of_ble_eq_true rfl⟩ hl.1 rfl rfl (Nat.le_of_ble_eq_true rfl) dL_keep_4 ⟨Nat.le_of_ble_eq_true rfl, Nat.le_of_ble_eq_true rfl⟩ rPre_bl (va_recv hK hP (ci := 4) (q0 := 0) rfl rfl) (rPre_go hP hK hD hA hN hT hS) hS [⟨0, 9, 12, 13⟩] ⟨0, 9, 15, 19⟩ [⟨0, 9, 18, 25⟩] htab (fun z hz => by cases hz with | head => exact Or.inr ⟨by decide, xIA, hts _ q154, hNX.1⟩ | tail _ h => cases h) (by decide) (by decide) rfl (hts _ q346) (va_Nw.use rfl (hT.2.2.1 _ (by decide))) (fun q H locs hP hS => ?_)
  refine lv_astore_n (lv' := [(3, .ref q), (0, .ref (ra 0)), (1, .int a), (2, .ref oa)]) hx hb dL_keep_15 rfl hl (by decide) rfl (fun ls hl => ?_)
  refine lv_iconst (v := 2) hx hb dL_keep_16 (by decide) ?_
  exact W.iret hx hb hr (fun t ht hW => ⟨rfl, (by rw [ht]; exact hP), hS.F ht⟩) hS.2.2 dL_keep_17
set_option maxHeartbeats 4000000 in
set_option maxRecDepth 100000 in
theorem L_keep_AR (l : Launch) (D : va_G) (A : Nat → Prop) (cI cB cJ : ClassId) (ra : Nat → Nat) (oa : Nat) (o : Nat → Int64) (σ σ' : St) (fr : va_W) (a : Int32) (hM : XM l yX4_keep cX4_keep 4 (some .int) 8 [.ref (ra 0), .int a] (rPre D A cI cB (LW cI cB cJ ra oa o σ fr)) xAR D A (LW cI cB cJ ra oa o σ' fr)) : LM l yL_keep cL_keep 4 [(0, 9, 12, 13), (0, 9, 15, 19), (0, 9, 18, 25)] 9 [.ref (ra 0), .int a, .ref oa] (lPre D A cI cB cJ (LW cI cB cJ ra oa o σ fr)) D A 3 (LW cI cB cJ ra oa o σ' fr) := by
  refine met_ofWH (cc := cL_keep) (maxL := 4) (ret := (some .int)) (hh := [(0, 9, 12, 13), (0, 9, 15, 19), (0, 9, 18, 25)]) (by decide) rfl ?_
  intro p e s m args below meth c s₁ B hml htab hv
  obtain ⟨rfl, hP, hKL, hD, hA, hN, hT, hNX⟩ := hv
  have hK : va_K D vwCl (tyR cI cB) s := hKL.sub [0, 1] rfl
  have hx := B.exec
  have hb := B.bytes
  have hr := B.returns
  have hts : ∀ w ∈ AW, w.before _ s = true := fun w h => atoms_spec (ws := Cond.codeWith yL_keep cL_keep 4 (some .int) [(0, 9, 12, 13), (0, 9, 15, 19), (0, 9, 18, 25)] :: AW) B.pre w (List.mem_cons_of_mem _ h)
  have hown : s.vm.findClass RL = some m.cls := findClass_of_methodNamed B.named
  have hlocks := B.notSynchronized
  have hS : va_S A s.heap s.heap [] := va_S.rf
  have hl := lv_entry ([.ref (ra 0), .int a, .ref oa]) (n := 4) (Nat.le_of_ble_eq_true rfl)
  rw [lg_entry_eq]
  generalize (lg_sl ([.ref (ra 0), .int a, .ref oa]) ++ List.replicate (4 - (lg_sl ([.ref (ra 0), .int a, .ref oa])).length) Slot.unset).toArray = ls at hl ⊢
  have hl : lv_has ls 4 [(0, .ref (ra 0)), (1, .int a), (2, .ref oa)] := hl
  refine lv_aload_n hx hb dL_keep_0 rfl (lv_at hl 2 rfl) ?_
  refine lv_iconst (v := 0) hx hb dL_keep_1 (by decide) ?_
  refine lv_aload_n hx hb dL_keep_2 rfl (lv_at hl 0 rfl) ?_
  refine lv_iload_n hx hb dL_keep_3 rfl (lv_at hl 1 rfl) ?_
  refine x_in (C := RX4) (rest := [.int 0, .ref oa]) (tgt := 18) hx hb hml hown hts hM q528 q529 q530 q21 q531 rfl nX4_keep ⟨Nat.le_of_ble_eq_true rfl, Nat.le_of_ble_eq_true rfl⟩ hl.1 rfl rfl (Nat.le_of_ble_eq_true rfl) dL_keep_4 ⟨Nat.le_of_ble_eq_true rfl, Nat.le_of_ble_eq_true rfl⟩ rPre_bl (va_recv hK hP (ci := 4) (q0 := 0) rfl rfl) (rPre_go hP hK hD hA hN hT hS) hS [⟨0, 9, 12, 13⟩, ⟨0, 9, 15, 19⟩] ⟨0, 9, 18, 25⟩ [] htab (fun z hz => by cases hz with | head => exact Or.inr ⟨by decide, xIA, hts _ q154, hNX.2.1⟩ | tail _ h => cases h with | head => exact Or.inr ⟨by decide, xIS, hts _ q346, hNX.2.2⟩ | tail _ h => cases h) (by decide) (by decide) rfl (hts _ q378) (va_Nw.use rfl (hT.2.2.1 _ (by decide))) (fun q H locs hP hS => ?_)
  refine lv_astore_n (lv' := [(3, .ref q), (0, .ref (ra 0)), (1, .int a), (2, .ref oa)]) hx hb dL_keep_18 rfl hl (by decide) rfl (fun ls hl => ?_)
  refine lv_iconst (v := 3) hx hb dL_keep_19 (by decide) ?_
  exact W.iret hx hb hr (fun t ht hW => ⟨rfl, (by rw [ht]; exact hP), hS.F ht⟩) hS.2.2 dL_keep_20
set_option maxHeartbeats 4000000 in
set_option maxRecDepth 100000 in
theorem L_reach_ok (l : Launch) (D : va_G) (A : Nat → Prop) (cI cB cJ : ClassId) (ra : Nat → Nat) (oa : Nat) (o : Nat → Int64) (σ σ' : St) (fr : va_W) (a : Int32) (b : Int32) (z : Int64) (hM : PM l yX4_reach cX4_reach 10 (some .long) 6 [.ref (ra 0), .int a, .int b] (rPre D A cI cB (LW cI cB cJ ra oa o σ fr)) (.long z)) : LM l yL_reach cL_reach 5 [(0, 9, 12, 13), (0, 9, 16, 19)] 9 [.ref (ra 0), .int a, .int b, .ref oa] (lPre D A cI cB cJ (LW cI cB cJ ra oa o σ fr)) D A 0 (LW cI cB cJ ra oa (vp_updL o 0 z) σ fr) := by
  refine met_ofWH (cc := cL_reach) (maxL := 5) (ret := (some .int)) (hh := [(0, 9, 12, 13), (0, 9, 16, 19)]) (by decide) rfl ?_
  intro p e s m args below meth c s₁ B hml htab hv
  obtain ⟨rfl, hP, hKL, hD, hA, hN, hT, hNX⟩ := hv
  have hK : va_K D vwCl (tyR cI cB) s := hKL.sub [0, 1] rfl
  have hx := B.exec
  have hb := B.bytes
  have hr := B.returns
  have hts : ∀ w ∈ AW, w.before _ s = true := fun w h => atoms_spec (ws := Cond.codeWith yL_reach cL_reach 5 (some .int) [(0, 9, 12, 13), (0, 9, 16, 19)] :: AW) B.pre w (List.mem_cons_of_mem _ h)
  have hown : s.vm.findClass RL = some m.cls := findClass_of_methodNamed B.named
  have hlocks := B.notSynchronized
  have hS : va_S A s.heap s.heap [] := va_S.rf
  have hl := lv_entry ([.ref (ra 0), .int a, .int b, .ref oa]) (n := 5) (Nat.le_of_ble_eq_true rfl)
  rw [lg_entry_eq]
  generalize (lg_sl ([.ref (ra 0), .int a, .int b, .ref oa]) ++ List.replicate (5 - (lg_sl ([.ref (ra 0), .int a, .int b, .ref oa])).length) Slot.unset).toArray = ls at hl ⊢
  have hl : lv_has ls 5 [(0, .ref (ra 0)), (1, .int a), (2, .int b), (3, .ref oa)] := hl
  refine lv_aload_n hx hb dL_reach_0 rfl (lv_at hl 3 rfl) ?_
  refine lv_iconst (v := 0) hx hb dL_reach_1 (by decide) ?_
  refine lv_aload_n hx hb dL_reach_2 rfl (lv_at hl 0 rfl) ?_
  refine lv_iload_n hx hb dL_reach_3 rfl (lv_at hl 1 rfl) ?_
  refine lv_iload_n hx hb dL_reach_4 rfl (lv_at hl 2 rfl) ?_
  refine p_V (C := RX4) (rest := [.int 0, .ref oa]) hx hb hml hown hts hM q535 q536 q537 q21 q538 rfl nX4_reach ⟨Nat.le_of_ble_eq_true rfl, Nat.le_of_ble_eq_true rfl⟩ hl.1 rfl rfl (Nat.le_of_ble_eq_true rfl) dL_reach_5 ⟨Nat.zero_le _, Nat.zero_le _⟩ rPre_bl (va_recv hK hP (ci := 4) (q0 := 0) rfl rfl) (rPre_go hP hK hD hA hN hT hS) ?_
  refine va_last (f := o) hx hb hKL hP hD hS 24 2 rfl rfl (show vp_in 0 1 by unfold vp_in; decide) dL_reach_8 (fun H locs hP hD hS => ?_)
  refine lv_goto (tgt := 20) hx hb dL_reach_9 rfl ?_
  refine lv_iconst (v := 0) hx hb dL_reach_20 (by decide) ?_
  refine W.widen (k := 1) (n := 6) (by omega) (by omega) ?_
  exact W.iret hx hb hr (fun t ht hW => ⟨rfl, (by rw [ht]; exact hP), hS.F ht⟩) hS.2.2 dL_reach_21
set_option maxHeartbeats 4000000 in
set_option maxRecDepth 100000 in
theorem L_reach_IA (l : Launch) (D : va_G) (A : Nat → Prop) (cI cB cJ : ClassId) (ra : Nat → Nat) (oa : Nat) (o : Nat → Int64) (σ σ' : St) (fr : va_W) (a : Int32) (b : Int32) (hM : XM l yX4_reach cX4_reach 10 (some .long) 7 [.ref (ra 0), .int a, .int b] (rPre D A cI cB (LW cI cB cJ ra oa o σ fr)) xIA D A (LW cI cB cJ ra oa o σ' fr)) : LM l yL_reach cL_reach 5 [(0, 9, 12, 13), (0, 9, 16, 19)] 9 [.ref (ra 0), .int a, .int b, .ref oa] (lPre D A cI cB cJ (LW cI cB cJ ra oa o σ fr)) D A 1 (LW cI cB cJ ra oa o σ' fr) := by
  refine met_ofWH (cc := cL_reach) (maxL := 5) (ret := (some .int)) (hh := [(0, 9, 12, 13), (0, 9, 16, 19)]) (by decide) rfl ?_
  intro p e s m args below meth c s₁ B hml htab hv
  obtain ⟨rfl, hP, hKL, hD, hA, hN, hT, hNX⟩ := hv
  have hK : va_K D vwCl (tyR cI cB) s := hKL.sub [0, 1] rfl
  have hx := B.exec
  have hb := B.bytes
  have hr := B.returns
  have hts : ∀ w ∈ AW, w.before _ s = true := fun w h => atoms_spec (ws := Cond.codeWith yL_reach cL_reach 5 (some .int) [(0, 9, 12, 13), (0, 9, 16, 19)] :: AW) B.pre w (List.mem_cons_of_mem _ h)
  have hown : s.vm.findClass RL = some m.cls := findClass_of_methodNamed B.named
  have hlocks := B.notSynchronized
  have hS : va_S A s.heap s.heap [] := va_S.rf
  have hl := lv_entry ([.ref (ra 0), .int a, .int b, .ref oa]) (n := 5) (Nat.le_of_ble_eq_true rfl)
  rw [lg_entry_eq]
  generalize (lg_sl ([.ref (ra 0), .int a, .int b, .ref oa]) ++ List.replicate (5 - (lg_sl ([.ref (ra 0), .int a, .int b, .ref oa])).length) Slot.unset).toArray = ls at hl ⊢
  have hl : lv_has ls 5 [(0, .ref (ra 0)), (1, .int a), (2, .int b), (3, .ref oa)] := hl
  refine lv_aload_n hx hb dL_reach_0 rfl (lv_at hl 3 rfl) ?_
  refine lv_iconst (v := 0) hx hb dL_reach_1 (by decide) ?_
  refine lv_aload_n hx hb dL_reach_2 rfl (lv_at hl 0 rfl) ?_
  refine lv_iload_n hx hb dL_reach_3 rfl (lv_at hl 1 rfl) ?_
  refine lv_iload_n hx hb dL_reach_4 rfl (lv_at hl 2 rfl) ?_
  refine x_in (C := RX4) (rest := [.int 0, .ref oa]) (tgt := 12) hx hb hml hown hts hM q535 q536 q537 q21 q538 rfl nX4_reach ⟨Nat.le_of_ble_eq_true rfl, Nat.le_of_ble_eq_true rfl⟩ hl.1 rfl rfl (Nat.le_of_ble_eq_true rfl) dL_reach_5 ⟨Nat.le_of_ble_eq_true rfl, Nat.le_of_ble_eq_true rfl⟩ rPre_bl (va_recv hK hP (ci := 4) (q0 := 0) rfl rfl) (rPre_go hP hK hD hA hN hT hS) hS [] ⟨0, 9, 12, 13⟩ [⟨0, 9, 16, 19⟩] htab (fun z hz => by cases hz) (by decide) (by decide) rfl (hts _ q154) (va_Nw.use rfl (hT.2.2.1 _ (by decide))) (fun q H locs hP hS => ?_)
  refine lv_astore (lv' := [(4, .ref q), (0, .ref (ra 0)), (1, .int a), (2, .int b), (3, .ref oa)]) hx hb dL_reach_12 hl (by decide) rfl (fun ls hl => ?_)
  refine lv_iconst (v := 1) hx hb dL_reach_14 (by decide) ?_
  exact W.iret hx hb hr (fun t ht hW => ⟨rfl, (by rw [ht]; exact hP), hS.F ht⟩) hS.2.2 dL_reach_15
set_option maxHeartbeats 4000000 in
set_option maxRecDepth 100000 in
theorem L_reach_IS (l : Launch) (D : va_G) (A : Nat → Prop) (cI cB cJ : ClassId) (ra : Nat → Nat) (oa : Nat) (o : Nat → Int64) (σ σ' : St) (fr : va_W) (a : Int32) (b : Int32) (hM : XM l yX4_reach cX4_reach 10 (some .long) 7 [.ref (ra 0), .int a, .int b] (rPre D A cI cB (LW cI cB cJ ra oa o σ fr)) xIS D A (LW cI cB cJ ra oa o σ' fr)) : LM l yL_reach cL_reach 5 [(0, 9, 12, 13), (0, 9, 16, 19)] 9 [.ref (ra 0), .int a, .int b, .ref oa] (lPre D A cI cB cJ (LW cI cB cJ ra oa o σ fr)) D A 2 (LW cI cB cJ ra oa o σ' fr) := by
  refine met_ofWH (cc := cL_reach) (maxL := 5) (ret := (some .int)) (hh := [(0, 9, 12, 13), (0, 9, 16, 19)]) (by decide) rfl ?_
  intro p e s m args below meth c s₁ B hml htab hv
  obtain ⟨rfl, hP, hKL, hD, hA, hN, hT, hNX⟩ := hv
  have hK : va_K D vwCl (tyR cI cB) s := hKL.sub [0, 1] rfl
  have hx := B.exec
  have hb := B.bytes
  have hr := B.returns
  have hts : ∀ w ∈ AW, w.before _ s = true := fun w h => atoms_spec (ws := Cond.codeWith yL_reach cL_reach 5 (some .int) [(0, 9, 12, 13), (0, 9, 16, 19)] :: AW) B.pre w (List.mem_cons_of_mem _ h)
  have hown : s.vm.findClass RL = some m.cls := findClass_of_methodNamed B.named
  have hlocks := B.notSynchronized
  have hS : va_S A s.heap s.heap [] := va_S.rf
  have hl := lv_entry ([.ref (ra 0), .int a, .int b, .ref oa]) (n := 5) (Nat.le_of_ble_eq_true rfl)
  rw [lg_entry_eq]
  generalize (lg_sl ([.ref (ra 0), .int a, .int b, .ref oa]) ++ List.replicate (5 - (lg_sl ([.ref (ra 0), .int a, .int b, .ref oa])).length) Slot.unset).toArray = ls at hl ⊢
  have hl : lv_has ls 5 [(0, .ref (ra 0)), (1, .int a), (2, .int b), (3, .ref oa)] := hl
  refine lv_aload_n hx hb dL_reach_0 rfl (lv_at hl 3 rfl) ?_
  refine lv_iconst (v := 0) hx hb dL_reach_1 (by decide) ?_
  refine lv_aload_n hx hb dL_reach_2 rfl (lv_at hl 0 rfl) ?_
  refine lv_iload_n hx hb dL_reach_3 rfl (lv_at hl 1 rfl) ?_
  refine lv_iload_n hx hb dL_reach_4 rfl (lv_at hl 2 rfl) ?_
  refine x_in (C := RX4) (rest := [.int 0, .ref oa]) (tgt := 16) hx hb hml hown hts hM q535 q536 q537 q21 q538 rfl nX4_reach ⟨Nat.le_of_ble_eq_true rfl, Nat.le_of_ble_eq_true rfl⟩ hl.1 rfl rfl (Nat.le_of_ble_eq_true rfl) dL_reach_5 ⟨Nat.le_of_ble_eq_true rfl, Nat.le_of_ble_eq_true rfl⟩ rPre_bl (va_recv hK hP (ci := 4) (q0 := 0) rfl rfl) (rPre_go hP hK hD hA hN hT hS) hS [⟨0, 9, 12, 13⟩] ⟨0, 9, 16, 19⟩ [] htab (fun z hz => by cases hz with | head => exact Or.inr ⟨by decide, xIA, hts _ q154, hNX.1⟩ | tail _ h => cases h) (by decide) (by decide) rfl (hts _ q346) (va_Nw.use rfl (hT.2.2.1 _ (by decide))) (fun q H locs hP hS => ?_)
  refine lv_astore (lv' := [(4, .ref q), (0, .ref (ra 0)), (1, .int a), (2, .int b), (3, .ref oa)]) hx hb dL_reach_16 hl (by decide) rfl (fun ls hl => ?_)
  refine lv_iconst (v := 2) hx hb dL_reach_18 (by decide) ?_
  exact W.iret hx hb hr (fun t ht hW => ⟨rfl, (by rw [ht]; exact hP), hS.F ht⟩) hS.2.2 dL_reach_19
set_option maxHeartbeats 4000000 in
set_option maxRecDepth 100000 in
theorem L_top_ok (l : Launch) (D : va_G) (A : Nat → Prop) (cI cB cJ : ClassId) (ra : Nat → Nat) (oa : Nat) (o : Nat → Int64) (σ σ' : St) (fr : va_W) (a : Int32) (b : Int32) (z : Int32) (hM : PM l yX4_top cX4_top 12 (some .int) 6 [.ref (ra 0), .int a, .int b] (rPre D A cI cB (LW cI cB cJ ra oa o σ fr)) (.int z)) : LM l yL_top cL_top 5 [(0, 10, 13, 13)] 9 [.ref (ra 0), .int a, .int b, .ref oa] (lPre D A cI cB cJ (LW cI cB cJ ra oa o σ fr)) D A 0 (LW cI cB cJ ra oa (vp_updL o 0 z.toInt64) σ fr) := by
  refine met_ofWH (cc := cL_top) (maxL := 5) (ret := (some .int)) (hh := [(0, 10, 13, 13)]) (by decide) rfl ?_
  intro p e s m args below meth c s₁ B hml htab hv
  obtain ⟨rfl, hP, hKL, hD, hA, hN, hT, hNX⟩ := hv
  have hK : va_K D vwCl (tyR cI cB) s := hKL.sub [0, 1] rfl
  have hx := B.exec
  have hb := B.bytes
  have hr := B.returns
  have hts : ∀ w ∈ AW, w.before _ s = true := fun w h => atoms_spec (ws := Cond.codeWith yL_top cL_top 5 (some .int) [(0, 10, 13, 13)] :: AW) B.pre w (List.mem_cons_of_mem _ h)
  have hown : s.vm.findClass RL = some m.cls := findClass_of_methodNamed B.named
  have hlocks := B.notSynchronized
  have hS : va_S A s.heap s.heap [] := va_S.rf
  have hl := lv_entry ([.ref (ra 0), .int a, .int b, .ref oa]) (n := 5) (Nat.le_of_ble_eq_true rfl)
  rw [lg_entry_eq]
  generalize (lg_sl ([.ref (ra 0), .int a, .int b, .ref oa]) ++ List.replicate (5 - (lg_sl ([.ref (ra 0), .int a, .int b, .ref oa])).length) Slot.unset).toArray = ls at hl ⊢
  have hl : lv_has ls 5 [(0, .ref (ra 0)), (1, .int a), (2, .int b), (3, .ref oa)] := hl
  refine lv_aload_n hx hb dL_top_0 rfl (lv_at hl 3 rfl) ?_
  refine lv_iconst (v := 0) hx hb dL_top_1 (by decide) ?_
  refine lv_aload_n hx hb dL_top_2 rfl (lv_at hl 0 rfl) ?_
  refine lv_iload_n hx hb dL_top_3 rfl (lv_at hl 1 rfl) ?_
  refine lv_iload_n hx hb dL_top_4 rfl (lv_at hl 2 rfl) ?_
  refine p_V (C := RX4) (rest := [.int 0, .ref oa]) hx hb hml hown hts hM q552 q553 q554 q21 q555 rfl nX4_top ⟨Nat.le_of_ble_eq_true rfl, Nat.le_of_ble_eq_true rfl⟩ hl.1 rfl rfl (Nat.le_of_ble_eq_true rfl) dL_top_5 ⟨Nat.zero_le _, Nat.zero_le _⟩ rPre_bl (va_recv hK hP (ci := 4) (q0 := 0) rfl rfl) (rPre_go hP hK hD hA hN hT hS) ?_
  refine lv_i2l (v := z.toInt64) hx hb dL_top_8 rfl ?_
  refine va_last (f := o) hx hb hKL hP hD hS 24 2 rfl rfl (show vp_in 0 1 by unfold vp_in; decide) dL_top_9 (fun H locs hP hD hS => ?_)
  refine lv_goto (tgt := 17) hx hb dL_top_10 rfl ?_
  refine lv_iconst (v := 0) hx hb dL_top_17 (by decide) ?_
  refine W.widen (k := 1) (n := 6) (by omega) (by omega) ?_
  exact W.iret hx hb hr (fun t ht hW => ⟨rfl, (by rw [ht]; exact hP), hS.F ht⟩) hS.2.2 dL_top_18
set_option maxHeartbeats 4000000 in
set_option maxRecDepth 100000 in
theorem L_top_IA (l : Launch) (D : va_G) (A : Nat → Prop) (cI cB cJ : ClassId) (ra : Nat → Nat) (oa : Nat) (o : Nat → Int64) (σ σ' : St) (fr : va_W) (a : Int32) (b : Int32) (hM : XM l yX4_top cX4_top 12 (some .int) 6 [.ref (ra 0), .int a, .int b] (rPre D A cI cB (LW cI cB cJ ra oa o σ fr)) xIA D A (LW cI cB cJ ra oa o σ' fr)) : LM l yL_top cL_top 5 [(0, 10, 13, 13)] 9 [.ref (ra 0), .int a, .int b, .ref oa] (lPre D A cI cB cJ (LW cI cB cJ ra oa o σ fr)) D A 1 (LW cI cB cJ ra oa o σ' fr) := by
  refine met_ofWH (cc := cL_top) (maxL := 5) (ret := (some .int)) (hh := [(0, 10, 13, 13)]) (by decide) rfl ?_
  intro p e s m args below meth c s₁ B hml htab hv
  obtain ⟨rfl, hP, hKL, hD, hA, hN, hT, hNX⟩ := hv
  have hK : va_K D vwCl (tyR cI cB) s := hKL.sub [0, 1] rfl
  have hx := B.exec
  have hb := B.bytes
  have hr := B.returns
  have hts : ∀ w ∈ AW, w.before _ s = true := fun w h => atoms_spec (ws := Cond.codeWith yL_top cL_top 5 (some .int) [(0, 10, 13, 13)] :: AW) B.pre w (List.mem_cons_of_mem _ h)
  have hown : s.vm.findClass RL = some m.cls := findClass_of_methodNamed B.named
  have hlocks := B.notSynchronized
  have hS : va_S A s.heap s.heap [] := va_S.rf
  have hl := lv_entry ([.ref (ra 0), .int a, .int b, .ref oa]) (n := 5) (Nat.le_of_ble_eq_true rfl)
  rw [lg_entry_eq]
  generalize (lg_sl ([.ref (ra 0), .int a, .int b, .ref oa]) ++ List.replicate (5 - (lg_sl ([.ref (ra 0), .int a, .int b, .ref oa])).length) Slot.unset).toArray = ls at hl ⊢
  have hl : lv_has ls 5 [(0, .ref (ra 0)), (1, .int a), (2, .int b), (3, .ref oa)] := hl
  refine lv_aload_n hx hb dL_top_0 rfl (lv_at hl 3 rfl) ?_
  refine lv_iconst (v := 0) hx hb dL_top_1 (by decide) ?_
  refine lv_aload_n hx hb dL_top_2 rfl (lv_at hl 0 rfl) ?_
  refine lv_iload_n hx hb dL_top_3 rfl (lv_at hl 1 rfl) ?_
  refine lv_iload_n hx hb dL_top_4 rfl (lv_at hl 2 rfl) ?_
  refine x_in (C := RX4) (rest := [.int 0, .ref oa]) (tgt := 13) hx hb hml hown hts hM q552 q553 q554 q21 q555 rfl nX4_top ⟨Nat.le_of_ble_eq_true rfl, Nat.le_of_ble_eq_true rfl⟩ hl.1 rfl rfl (Nat.le_of_ble_eq_true rfl) dL_top_5 ⟨Nat.le_of_ble_eq_true rfl, Nat.le_of_ble_eq_true rfl⟩ rPre_bl (va_recv hK hP (ci := 4) (q0 := 0) rfl rfl) (rPre_go hP hK hD hA hN hT hS) hS [] ⟨0, 10, 13, 13⟩ [] htab (fun z hz => by cases hz) (by decide) (by decide) rfl (hts _ q154) (va_Nw.use rfl (hT.2.2.1 _ (by decide))) (fun q H locs hP hS => ?_)
  refine lv_astore (lv' := [(4, .ref q), (0, .ref (ra 0)), (1, .int a), (2, .int b), (3, .ref oa)]) hx hb dL_top_13 hl (by decide) rfl (fun ls hl => ?_)
  refine lv_iconst (v := 1) hx hb dL_top_15 (by decide) ?_
  exact W.iret hx hb hr (fun t ht hW => ⟨rfl, (by rw [ht]; exact hP), hS.F ht⟩) hS.2.2 dL_top_16
set_option maxHeartbeats 4000000 in
set_option maxRecDepth 100000 in
theorem L_look_ok (l : Launch) (D : va_G) (A : Nat → Prop) (cI cB cJ : ClassId) (ra : Nat → Nat) (oa : Nat) (o : Nat → Int64) (σ σ' : St) (fr : va_W) (a : Int32) (b : Int32) (z : Int64) (hM : PM l yX4_look cX4_look 4 (some .long) 1 [.ref (ra 0), .int a, .int b] (rPre D A cI cB (LW cI cB cJ ra oa o σ fr)) (.long z)) : LM l yL_look cL_look 5 [(0, 9, 12, 13)] 9 [.ref (ra 0), .int a, .int b, .ref oa] (lPre D A cI cB cJ (LW cI cB cJ ra oa o σ fr)) D A 0 (LW cI cB cJ ra oa (vp_updL o 0 z) σ fr) := by
  refine met_ofWH (cc := cL_look) (maxL := 5) (ret := (some .int)) (hh := [(0, 9, 12, 13)]) (by decide) rfl ?_
  intro p e s m args below meth c s₁ B hml htab hv
  obtain ⟨rfl, hP, hKL, hD, hA, hN, hT, hNX⟩ := hv
  have hK : va_K D vwCl (tyR cI cB) s := hKL.sub [0, 1] rfl
  have hx := B.exec
  have hb := B.bytes
  have hr := B.returns
  have hts : ∀ w ∈ AW, w.before _ s = true := fun w h => atoms_spec (ws := Cond.codeWith yL_look cL_look 5 (some .int) [(0, 9, 12, 13)] :: AW) B.pre w (List.mem_cons_of_mem _ h)
  have hown : s.vm.findClass RL = some m.cls := findClass_of_methodNamed B.named
  have hlocks := B.notSynchronized
  have hS : va_S A s.heap s.heap [] := va_S.rf
  have hl := lv_entry ([.ref (ra 0), .int a, .int b, .ref oa]) (n := 5) (Nat.le_of_ble_eq_true rfl)
  rw [lg_entry_eq]
  generalize (lg_sl ([.ref (ra 0), .int a, .int b, .ref oa]) ++ List.replicate (5 - (lg_sl ([.ref (ra 0), .int a, .int b, .ref oa])).length) Slot.unset).toArray = ls at hl ⊢
  have hl : lv_has ls 5 [(0, .ref (ra 0)), (1, .int a), (2, .int b), (3, .ref oa)] := hl
  refine lv_aload_n hx hb dL_look_0 rfl (lv_at hl 3 rfl) ?_
  refine lv_iconst (v := 0) hx hb dL_look_1 (by decide) ?_
  refine lv_aload_n hx hb dL_look_2 rfl (lv_at hl 0 rfl) ?_
  refine lv_iload_n hx hb dL_look_3 rfl (lv_at hl 1 rfl) ?_
  refine lv_iload_n hx hb dL_look_4 rfl (lv_at hl 2 rfl) ?_
  refine p_V (C := RX4) (rest := [.int 0, .ref oa]) hx hb hml hown hts hM q561 q562 q563 q21 q564 rfl nX4_look ⟨Nat.le_of_ble_eq_true rfl, Nat.le_of_ble_eq_true rfl⟩ hl.1 rfl rfl (Nat.le_of_ble_eq_true rfl) dL_look_5 ⟨Nat.zero_le _, Nat.zero_le _⟩ rPre_bl (va_recv hK hP (ci := 4) (q0 := 0) rfl rfl) (rPre_go hP hK hD hA hN hT hS) ?_
  refine va_last (f := o) hx hb hKL hP hD hS 24 2 rfl rfl (show vp_in 0 1 by unfold vp_in; decide) dL_look_8 (fun H locs hP hD hS => ?_)
  refine lv_goto (tgt := 16) hx hb dL_look_9 rfl ?_
  refine lv_iconst (v := 0) hx hb dL_look_16 (by decide) ?_
  refine W.widen (k := 1) (n := 6) (by omega) (by omega) ?_
  exact W.iret hx hb hr (fun t ht hW => ⟨rfl, (by rw [ht]; exact hP), hS.F ht⟩) hS.2.2 dL_look_17
set_option maxHeartbeats 4000000 in
set_option maxRecDepth 100000 in
theorem L_look_IA (l : Launch) (D : va_G) (A : Nat → Prop) (cI cB cJ : ClassId) (ra : Nat → Nat) (oa : Nat) (o : Nat → Int64) (σ σ' : St) (fr : va_W) (a : Int32) (b : Int32) (hM : XM l yX4_look cX4_look 4 (some .long) 7 [.ref (ra 0), .int a, .int b] (rPre D A cI cB (LW cI cB cJ ra oa o σ fr)) xIA D A (LW cI cB cJ ra oa o σ' fr)) : LM l yL_look cL_look 5 [(0, 9, 12, 13)] 9 [.ref (ra 0), .int a, .int b, .ref oa] (lPre D A cI cB cJ (LW cI cB cJ ra oa o σ fr)) D A 1 (LW cI cB cJ ra oa o σ' fr) := by
  refine met_ofWH (cc := cL_look) (maxL := 5) (ret := (some .int)) (hh := [(0, 9, 12, 13)]) (by decide) rfl ?_
  intro p e s m args below meth c s₁ B hml htab hv
  obtain ⟨rfl, hP, hKL, hD, hA, hN, hT, hNX⟩ := hv
  have hK : va_K D vwCl (tyR cI cB) s := hKL.sub [0, 1] rfl
  have hx := B.exec
  have hb := B.bytes
  have hr := B.returns
  have hts : ∀ w ∈ AW, w.before _ s = true := fun w h => atoms_spec (ws := Cond.codeWith yL_look cL_look 5 (some .int) [(0, 9, 12, 13)] :: AW) B.pre w (List.mem_cons_of_mem _ h)
  have hown : s.vm.findClass RL = some m.cls := findClass_of_methodNamed B.named
  have hlocks := B.notSynchronized
  have hS : va_S A s.heap s.heap [] := va_S.rf
  have hl := lv_entry ([.ref (ra 0), .int a, .int b, .ref oa]) (n := 5) (Nat.le_of_ble_eq_true rfl)
  rw [lg_entry_eq]
  generalize (lg_sl ([.ref (ra 0), .int a, .int b, .ref oa]) ++ List.replicate (5 - (lg_sl ([.ref (ra 0), .int a, .int b, .ref oa])).length) Slot.unset).toArray = ls at hl ⊢
  have hl : lv_has ls 5 [(0, .ref (ra 0)), (1, .int a), (2, .int b), (3, .ref oa)] := hl
  refine lv_aload_n hx hb dL_look_0 rfl (lv_at hl 3 rfl) ?_
  refine lv_iconst (v := 0) hx hb dL_look_1 (by decide) ?_
  refine lv_aload_n hx hb dL_look_2 rfl (lv_at hl 0 rfl) ?_
  refine lv_iload_n hx hb dL_look_3 rfl (lv_at hl 1 rfl) ?_
  refine lv_iload_n hx hb dL_look_4 rfl (lv_at hl 2 rfl) ?_
  refine x_in (C := RX4) (rest := [.int 0, .ref oa]) (tgt := 12) hx hb hml hown hts hM q561 q562 q563 q21 q564 rfl nX4_look ⟨Nat.le_of_ble_eq_true rfl, Nat.le_of_ble_eq_true rfl⟩ hl.1 rfl rfl (Nat.le_of_ble_eq_true rfl) dL_look_5 ⟨Nat.le_of_ble_eq_true rfl, Nat.le_of_ble_eq_true rfl⟩ rPre_bl (va_recv hK hP (ci := 4) (q0 := 0) rfl rfl) (rPre_go hP hK hD hA hN hT hS) hS [] ⟨0, 9, 12, 13⟩ [] htab (fun z hz => by cases hz) (by decide) (by decide) rfl (hts _ q154) (va_Nw.use rfl (hT.2.2.1 _ (by decide))) (fun q H locs hP hS => ?_)
  refine lv_astore (lv' := [(4, .ref q), (0, .ref (ra 0)), (1, .int a), (2, .int b), (3, .ref oa)]) hx hb dL_look_12 hl (by decide) rfl (fun ls hl => ?_)
  refine lv_iconst (v := 1) hx hb dL_look_14 (by decide) ?_
  exact W.iret hx hb hr (fun t ht hW => ⟨rfl, (by rw [ht]; exact hP), hS.F ht⟩) hS.2.2 dL_look_15
set_option maxHeartbeats 4000000 in
set_option maxRecDepth 100000 in
theorem L_forget_ok (l : Launch) (D : va_G) (A : Nat → Prop) (cI cB cJ : ClassId) (ra : Nat → Nat) (oa : Nat) (o : Nat → Int64) (σ σ' : St) (fr : va_W) (a : Int32) (z : Int32) (hM : IM l yX4_forget cX4_forget 4 (some .int) 1 [.ref (ra 0), .int a] (rPre D A cI cB (LW cI cB cJ ra oa o σ fr)) D A (some (.int z)) (LW cI cB cJ ra oa o σ' fr)) : LM l yL_forget cL_forget 4 [(0, 9, 12, 13)] 9 [.ref (ra 0), .int a, .ref oa] (lPre D A cI cB cJ (LW cI cB cJ ra oa o σ fr)) D A 0 (LW cI cB cJ ra oa (vp_updL o 0 z.toInt64) σ' fr) := by
  refine met_ofWH (cc := cL_forget) (maxL := 4) (ret := (some .int)) (hh := [(0, 9, 12, 13)]) (by decide) rfl ?_
  intro p e s m args below meth c s₁ B hml htab hv
  obtain ⟨rfl, hP, hKL, hD, hA, hN, hT, hNX⟩ := hv
  have hK : va_K D vwCl (tyR cI cB) s := hKL.sub [0, 1] rfl
  have hx := B.exec
  have hb := B.bytes
  have hr := B.returns
  have hts : ∀ w ∈ AW, w.before _ s = true := fun w h => atoms_spec (ws := Cond.codeWith yL_forget cL_forget 4 (some .int) [(0, 9, 12, 13)] :: AW) B.pre w (List.mem_cons_of_mem _ h)
  have hown : s.vm.findClass RL = some m.cls := findClass_of_methodNamed B.named
  have hlocks := B.notSynchronized
  have hS : va_S A s.heap s.heap [] := va_S.rf
  have hl := lv_entry ([.ref (ra 0), .int a, .ref oa]) (n := 4) (Nat.le_of_ble_eq_true rfl)
  rw [lg_entry_eq]
  generalize (lg_sl ([.ref (ra 0), .int a, .ref oa]) ++ List.replicate (4 - (lg_sl ([.ref (ra 0), .int a, .ref oa])).length) Slot.unset).toArray = ls at hl ⊢
  have hl : lv_has ls 4 [(0, .ref (ra 0)), (1, .int a), (2, .ref oa)] := hl
  refine lv_aload_n hx hb dL_forget_0 rfl (lv_at hl 2 rfl) ?_
  refine lv_iconst (v := 0) hx hb dL_forget_1 (by decide) ?_
  refine lv_aload_n hx hb dL_forget_2 rfl (lv_at hl 0 rfl) ?_
  refine lv_iload_n hx hb dL_forget_3 rfl (lv_at hl 1 rfl) ?_
  refine i_V (C := RX4) (rest := [.int 0, .ref oa]) hx hb hml hown hts hM q569 q570 q571 q21 q572 rfl nX4_forget ⟨Nat.le_of_ble_eq_true rfl, Nat.le_of_ble_eq_true rfl⟩ hl.1 rfl rfl (Nat.le_of_ble_eq_true rfl) dL_forget_4 ⟨Nat.zero_le _, Nat.zero_le _⟩ rPre_bl (va_recv hK hP (ci := 4) (q0 := 0) rfl rfl) (rPre_go hP hK hD hA hN hT hS) hS (fun H locs hP hS => ?_)
  have hD : va_D A (LW cI cB cJ ra oa o σ' fr) := rw_D (σ' := σ') hD
  refine lv_i2l (v := z.toInt64) hx hb dL_forget_7 rfl ?_
  refine va_last (f := o) hx hb hKL hP hD hS 24 2 rfl rfl (show vp_in 0 1 by unfold vp_in; decide) dL_forget_8 (fun H locs hP hD hS => ?_)
  refine lv_goto (tgt := 15) hx hb dL_forget_9 rfl ?_
  refine lv_iconst (v := 0) hx hb dL_forget_15 (by decide) ?_
  refine W.widen (k := 1) (n := 6) (by omega) (by omega) ?_
  exact W.iret hx hb hr (fun t ht hW => ⟨rfl, (by rw [ht]; exact hP), hS.F ht⟩) hS.2.2 dL_forget_16
set_option maxHeartbeats 4000000 in
set_option maxRecDepth 100000 in
theorem L_forget_IA (l : Launch) (D : va_G) (A : Nat → Prop) (cI cB cJ : ClassId) (ra : Nat → Nat) (oa : Nat) (o : Nat → Int64) (σ σ' : St) (fr : va_W) (a : Int32) (hM : XM l yX4_forget cX4_forget 4 (some .int) 7 [.ref (ra 0), .int a] (rPre D A cI cB (LW cI cB cJ ra oa o σ fr)) xIA D A (LW cI cB cJ ra oa o σ' fr)) : LM l yL_forget cL_forget 4 [(0, 9, 12, 13)] 9 [.ref (ra 0), .int a, .ref oa] (lPre D A cI cB cJ (LW cI cB cJ ra oa o σ fr)) D A 1 (LW cI cB cJ ra oa o σ' fr) := by
  refine met_ofWH (cc := cL_forget) (maxL := 4) (ret := (some .int)) (hh := [(0, 9, 12, 13)]) (by decide) rfl ?_
  intro p e s m args below meth c s₁ B hml htab hv
  obtain ⟨rfl, hP, hKL, hD, hA, hN, hT, hNX⟩ := hv
  have hK : va_K D vwCl (tyR cI cB) s := hKL.sub [0, 1] rfl
  have hx := B.exec
  have hb := B.bytes
  have hr := B.returns
  have hts : ∀ w ∈ AW, w.before _ s = true := fun w h => atoms_spec (ws := Cond.codeWith yL_forget cL_forget 4 (some .int) [(0, 9, 12, 13)] :: AW) B.pre w (List.mem_cons_of_mem _ h)
  have hown : s.vm.findClass RL = some m.cls := findClass_of_methodNamed B.named
  have hlocks := B.notSynchronized
  have hS : va_S A s.heap s.heap [] := va_S.rf
  have hl := lv_entry ([.ref (ra 0), .int a, .ref oa]) (n := 4) (Nat.le_of_ble_eq_true rfl)
  rw [lg_entry_eq]
  generalize (lg_sl ([.ref (ra 0), .int a, .ref oa]) ++ List.replicate (4 - (lg_sl ([.ref (ra 0), .int a, .ref oa])).length) Slot.unset).toArray = ls at hl ⊢
  have hl : lv_has ls 4 [(0, .ref (ra 0)), (1, .int a), (2, .ref oa)] := hl
  refine lv_aload_n hx hb dL_forget_0 rfl (lv_at hl 2 rfl) ?_
  refine lv_iconst (v := 0) hx hb dL_forget_1 (by decide) ?_
  refine lv_aload_n hx hb dL_forget_2 rfl (lv_at hl 0 rfl) ?_
  refine lv_iload_n hx hb dL_forget_3 rfl (lv_at hl 1 rfl) ?_
  refine x_in (C := RX4) (rest := [.int 0, .ref oa]) (tgt := 12) hx hb hml hown hts hM q569 q570 q571 q21 q572 rfl nX4_forget ⟨Nat.le_of_ble_eq_true rfl, Nat.le_of_ble_eq_true rfl⟩ hl.1 rfl rfl (Nat.le_of_ble_eq_true rfl) dL_forget_4 ⟨Nat.le_of_ble_eq_true rfl, Nat.le_of_ble_eq_true rfl⟩ rPre_bl (va_recv hK hP (ci := 4) (q0 := 0) rfl rfl) (rPre_go hP hK hD hA hN hT hS) hS [] ⟨0, 9, 12, 13⟩ [] htab (fun z hz => by cases hz) (by decide) (by decide) rfl (hts _ q154) (va_Nw.use rfl (hT.2.2.1 _ (by decide))) (fun q H locs hP hS => ?_)
  refine lv_astore_n (lv' := [(3, .ref q), (0, .ref (ra 0)), (1, .int a), (2, .ref oa)]) hx hb dL_forget_12 rfl hl (by decide) rfl (fun ls hl => ?_)
  refine lv_iconst (v := 1) hx hb dL_forget_13 (by decide) ?_
  exact W.iret hx hb hr (fun t ht hW => ⟨rfl, (by rw [ht]; exact hP), hS.F ht⟩) hS.2.2 dL_forget_14
