theorem nX5_show : yX5_show.cls ≠ "java/lang/invoke/MethodHandle" ∧ yX5_show.cls ≠ "java/lang/invoke/VarHandle" ∧ (parseMethodDescriptor yX5_show.desc).map (fun d => d.parameters.length) = some 1 := by decide +kernel
theorem nX5_keep : yX5_keep.cls ≠ "java/lang/invoke/MethodHandle" ∧ yX5_keep.cls ≠ "java/lang/invoke/VarHandle" ∧ (parseMethodDescriptor yX5_keep.desc).map (fun d => d.parameters.length) = some 1 := by decide +kernel
set_option maxHeartbeats 4000000 in
set_option maxRecDepth 100000 in
theorem m_X5_showA (l : Launch) (D : va_G) (A : Nat → Prop) (cI cJ : ClassId) (ma : Nat → Nat) (th : Int32) (σ : St) (fr : va_W) (g : Int32) (h1 : sX5_isBalance g = 0) : IM l yX5_show cX5_show 2 (some .long) 7 [.ref (ma 0), .int g] (mPre D A cI cJ (MW cI cJ ma th σ fr)) D A (some (.long (0 : Int64))) (MW cI cJ ma 1 (zSetRfs σ (-1 : Int32)) fr) := by
  refine Met.ofW (cc := cX5_show) (maxL := 2) (ret := (some .long)) (by decide) rfl ?_
  intro p e s m args below meth c s₁ B hml hv
  obtain ⟨rfl, hP, hK, hD⟩ := hv
  have hx := B.exec
  have hb := B.bytes
  have hr := B.returns
  have hts : ∀ w ∈ AW, w.before _ s = true := fun w h => atoms_spec (ws := Cond.code yX5_show cX5_show 2 (some .long) :: AW) B.pre w (List.mem_cons_of_mem _ h)
  have hown : s.vm.findClass RX5 = some m.cls := findClass_of_methodNamed B.named
  have hlocks := B.notSynchronized
  have hS : va_S A s.heap s.heap [] := va_S.rf
  have hl := lv_entry ([.ref (ma 0), .int g]) (n := 2) (Nat.le_of_ble_eq_true rfl)
  rw [lg_entry_eq]
  generalize (lg_sl ([.ref (ma 0), .int g]) ++ List.replicate (2 - (lg_sl ([.ref (ma 0), .int g])).length) Slot.unset).toArray = ls at hl ⊢
  have hl : lv_has ls 2 [(0, .ref (ma 0)), (1, .int g)] := hl
  refine lv_aload_n hx hb dX5_show_0 rfl (lv_at hl 0 rfl) ?_
  refine lv_iload_n hx hb dX5_show_1 rfl (lv_at hl 1 rfl) ?_
  refine i_V (C := RX5) (rest := []) hx hb hml hown hts (m_X5_doneA l D A cI cJ ma th σ fr g h1) q727 q729 q17 q26 q730 rfl nX5_done ⟨Nat.le_of_ble_eq_true rfl, Nat.le_of_ble_eq_true rfl⟩ hl.1 rfl rfl (Nat.le_of_ble_eq_true rfl) dX5_show_2 ⟨Nat.zero_le _, Nat.zero_le _⟩ mPre_bl (va_recv hK hP (ci := 5) (q0 := 0) rfl rfl) (mPre_go hP hK hD) hS (fun H locs hP hS => ?_)
  have hD := mw_D (th' := 1) (σ' := (zSetRfs σ (-1 : Int32))) hD
  have hP : va_P D vwCl (MW cI cJ ma 1 (zSetRfs σ (-1 : Int32)) fr) H := hP
  have hD : va_D A (MW cI cJ ma 1 (zSetRfs σ (-1 : Int32)) fr) := hD
  exact W.lret hx hb hr (fun t ht hW => ⟨rfl, by rw [ht]; exact hP, hS.F ht⟩) hS.2.2 dX5_show_5
set_option maxHeartbeats 4000000 in
set_option maxRecDepth 100000 in
theorem m_X5_showB (l : Launch) (D : va_G) (A : Nat → Prop) (cI cJ : ClassId) (ma : Nat → Nat) (th : Int32) (σ : St) (fr : va_W) (g : Int32) (hg : vp_in g 16) (h2 : zCnt σ g.toNatClampNeg = 0) : IM l yX5_show cX5_show 2 (some .long) 7 [.ref (ma 0), .int g] (mPre D A cI cJ (MW cI cJ ma th σ fr)) D A (some (.long (0 : Int64))) (MW cI cJ ma 2 (zSetRfs σ (-1 : Int32)) fr) := by
  refine Met.ofW (cc := cX5_show) (maxL := 2) (ret := (some .long)) (by decide) rfl ?_
  intro p e s m args below meth c s₁ B hml hv
  obtain ⟨rfl, hP, hK, hD⟩ := hv
  have hx := B.exec
  have hb := B.bytes
  have hr := B.returns
  have hts : ∀ w ∈ AW, w.before _ s = true := fun w h => atoms_spec (ws := Cond.code yX5_show cX5_show 2 (some .long) :: AW) B.pre w (List.mem_cons_of_mem _ h)
  have hown : s.vm.findClass RX5 = some m.cls := findClass_of_methodNamed B.named
  have hlocks := B.notSynchronized
  have hS : va_S A s.heap s.heap [] := va_S.rf
  have hl := lv_entry ([.ref (ma 0), .int g]) (n := 2) (Nat.le_of_ble_eq_true rfl)
  rw [lg_entry_eq]
  generalize (lg_sl ([.ref (ma 0), .int g]) ++ List.replicate (2 - (lg_sl ([.ref (ma 0), .int g])).length) Slot.unset).toArray = ls at hl ⊢
  have hl : lv_has ls 2 [(0, .ref (ma 0)), (1, .int g)] := hl
  refine lv_aload_n hx hb dX5_show_0 rfl (lv_at hl 0 rfl) ?_
  refine lv_iload_n hx hb dX5_show_1 rfl (lv_at hl 1 rfl) ?_
  refine i_V (C := RX5) (rest := []) hx hb hml hown hts (m_X5_doneB l D A cI cJ ma th σ fr g hg h2) q727 q729 q17 q26 q730 rfl nX5_done ⟨Nat.le_of_ble_eq_true rfl, Nat.le_of_ble_eq_true rfl⟩ hl.1 rfl rfl (Nat.le_of_ble_eq_true rfl) dX5_show_2 ⟨Nat.zero_le _, Nat.zero_le _⟩ mPre_bl (va_recv hK hP (ci := 5) (q0 := 0) rfl rfl) (mPre_go hP hK hD) hS (fun H locs hP hS => ?_)
  have hD := mw_D (th' := 2) (σ' := (zSetRfs σ (-1 : Int32))) hD
  have hP : va_P D vwCl (MW cI cJ ma 2 (zSetRfs σ (-1 : Int32)) fr) H := hP
  have hD : va_D A (MW cI cJ ma 2 (zSetRfs σ (-1 : Int32)) fr) := hD
  exact W.lret hx hb hr (fun t ht hW => ⟨rfl, by rw [ht]; exact hP, hS.F ht⟩) hS.2.2 dX5_show_5
set_option maxHeartbeats 4000000 in
set_option maxRecDepth 100000 in
theorem m_X5_showC (l : Launch) (D : va_G) (A : Nat → Prop) (cI cJ : ClassId) (ma : Nat → Nat) (th : Int32) (σ : St) (fr : va_W) (g : Int32) (n : Nat) (Vd : Int64 → Prop) (hg : vp_in g 16) (hc : ¬ zCnt σ g.toNatClampNeg = 0) (hn : zOrd σ = nI n) (hn12 : n ≤ 12) (hTk : ∀ i, i < n → ¬ sX5_asks (zCds (zSetRfs σ (-1 : Int32)) i) = 0 → vp_in (zOps (zSetRfs σ (-1 : Int32)) i) 16) (hV0 : Vd (zNow σ g.toNatClampNeg)) (hVs : ∀ i v, i < n → Vd v → sX5_refusal (zSetRfs σ (-1 : Int32)) (zCds (zSetRfs σ (-1 : Int32)) i) (zOps (zSetRfs σ (-1 : Int32)) i) (g / (4 : Int32)) v = 0 → doesOK (zSetRfs σ (-1 : Int32)) (zCds (zSetRfs σ (-1 : Int32)) i) (zOps (zSetRfs σ (-1 : Int32)) i) (g / (4 : Int32)) v ∧ Vd (sX5_does (zSetRfs σ (-1 : Int32)) (zCds (zSetRfs σ (-1 : Int32)) i) (zOps (zSetRfs σ (-1 : Int32)) i) (g / (4 : Int32)) v)) : IM l yX5_show cX5_show 2 (some .long) 7 [.ref (ma 0), .int g] (mPre D A cI cJ (MW cI cJ ma th σ fr)) D A (some (.long (if 0 < (mLoop (zSetRfs σ (-1 : Int32)) (g / (4 : Int32)) n 0 (zNow σ g.toNatClampNeg)).2.1 then 0 else (mLoop (zSetRfs σ (-1 : Int32)) (g / (4 : Int32)) n 0 (zNow σ g.toNatClampNeg)).1))) (MW cI cJ ma (mLoop (zSetRfs σ (-1 : Int32)) (g / (4 : Int32)) n 0 (zNow σ g.toNatClampNeg)).2.1 (zSetRfs (zSetRfs σ (-1 : Int32)) (mLoop (zSetRfs σ (-1 : Int32)) (g / (4 : Int32)) n 0 (zNow σ g.toNatClampNeg)).2.2) fr) := by
  refine Met.ofW (cc := cX5_show) (maxL := 2) (ret := (some .long)) (by decide) rfl ?_
  intro p e s m args below meth c s₁ B hml hv
  obtain ⟨rfl, hP, hK, hD⟩ := hv
  have hx := B.exec
  have hb := B.bytes
  have hr := B.returns
  have hts : ∀ w ∈ AW, w.before _ s = true := fun w h => atoms_spec (ws := Cond.code yX5_show cX5_show 2 (some .long) :: AW) B.pre w (List.mem_cons_of_mem _ h)
  have hown : s.vm.findClass RX5 = some m.cls := findClass_of_methodNamed B.named
  have hlocks := B.notSynchronized
  have hS : va_S A s.heap s.heap [] := va_S.rf
  have hl := lv_entry ([.ref (ma 0), .int g]) (n := 2) (Nat.le_of_ble_eq_true rfl)
  rw [lg_entry_eq]
  generalize (lg_sl ([.ref (ma 0), .int g]) ++ List.replicate (2 - (lg_sl ([.ref (ma 0), .int g])).length) Slot.unset).toArray = ls at hl ⊢
  have hl : lv_has ls 2 [(0, .ref (ma 0)), (1, .int g)] := hl
  refine lv_aload_n hx hb dX5_show_0 rfl (lv_at hl 0 rfl) ?_
  refine lv_iload_n hx hb dX5_show_1 rfl (lv_at hl 1 rfl) ?_
  refine i_V (C := RX5) (rest := []) hx hb hml hown hts (m_X5_done l D A cI cJ ma th σ fr g n Vd hg hc hn hn12 hTk hV0 hVs) q727 q729 q17 q26 q730 rfl nX5_done ⟨Nat.le_of_ble_eq_true rfl, Nat.le_of_ble_eq_true rfl⟩ hl.1 rfl rfl (Nat.le_of_ble_eq_true rfl) dX5_show_2 ⟨Nat.zero_le _, Nat.zero_le _⟩ mPre_bl (va_recv hK hP (ci := 5) (q0 := 0) rfl rfl) (mPre_go hP hK hD) hS (fun H locs hP hS => ?_)
  have hD := mw_D (th' := (mLoop (zSetRfs σ (-1 : Int32)) (g / (4 : Int32)) n 0 (zNow σ g.toNatClampNeg)).2.1) (σ' := (zSetRfs (zSetRfs σ (-1 : Int32)) (mLoop (zSetRfs σ (-1 : Int32)) (g / (4 : Int32)) n 0 (zNow σ g.toNatClampNeg)).2.2)) hD
  have hP : va_P D vwCl (MW cI cJ ma ((mLoop (zSetRfs σ (-1 : Int32)) (g / (4 : Int32)) n 0 (zNow σ g.toNatClampNeg)).2.1) (zSetRfs (zSetRfs σ (-1 : Int32)) (mLoop (zSetRfs σ (-1 : Int32)) (g / (4 : Int32)) n 0 (zNow σ g.toNatClampNeg)).2.2) fr) H := hP
  have hD : va_D A (MW cI cJ ma ((mLoop (zSetRfs σ (-1 : Int32)) (g / (4 : Int32)) n 0 (zNow σ g.toNatClampNeg)).2.1) (zSetRfs (zSetRfs σ (-1 : Int32)) (mLoop (zSetRfs σ (-1 : Int32)) (g / (4 : Int32)) n 0 (zNow σ g.toNatClampNeg)).2.2) fr) := hD
  exact W.lret hx hb hr (fun t ht hW => ⟨rfl, by rw [ht]; exact hP, hS.F ht⟩) hS.2.2 dX5_show_5
set_option maxHeartbeats 4000000 in
set_option maxRecDepth 100000 in
theorem m_X5_keepA (l : Launch) (D : va_G) (A : Nat → Prop) (cI cJ : ClassId) (ma : Nat → Nat) (th : Int32) (σ : St) (fr : va_W) (g : Int32) (h1 : sX5_isBalance g = 0) : IM l yX5_keep cX5_keep 4 (some .int) 7 [.ref (ma 0), .int g] (mPre D A cI cJ (MW cI cJ ma th σ fr)) D A (some (.int (0 : Int32))) (MW cI cJ ma 1 (zSetRfs σ (-1 : Int32)) fr) := by
  refine Met.ofW (cc := cX5_keep) (maxL := 4) (ret := (some .int)) (by decide) rfl ?_
  intro p e s m args below meth c s₁ B hml hv
  obtain ⟨rfl, hP, hK, hD⟩ := hv
  have hx := B.exec
  have hb := B.bytes
  have hr := B.returns
  have hts : ∀ w ∈ AW, w.before _ s = true := fun w h => atoms_spec (ws := Cond.code yX5_keep cX5_keep 4 (some .int) :: AW) B.pre w (List.mem_cons_of_mem _ h)
  have hown : s.vm.findClass RX5 = some m.cls := findClass_of_methodNamed B.named
  have hlocks := B.notSynchronized
  have hS : va_S A s.heap s.heap [] := va_S.rf
  have hl := lv_entry ([.ref (ma 0), .int g]) (n := 4) (Nat.le_of_ble_eq_true rfl)
  rw [lg_entry_eq]
  generalize (lg_sl ([.ref (ma 0), .int g]) ++ List.replicate (4 - (lg_sl ([.ref (ma 0), .int g])).length) Slot.unset).toArray = ls at hl ⊢
  have hl : lv_has ls 4 [(0, .ref (ma 0)), (1, .int g)] := hl
  have kn9 : 0 < (1 : Int32) := by decide
  refine lv_aload_n hx hb dX5_keep_0 rfl (lv_at hl 0 rfl) ?_
  refine lv_iload_n hx hb dX5_keep_1 rfl (lv_at hl 1 rfl) ?_
  refine i_V (C := RX5) (rest := []) hx hb hml hown hts (m_X5_doneA l D A cI cJ ma th σ fr g h1) q727 q729 q17 q26 q730 rfl nX5_done ⟨Nat.le_of_ble_eq_true rfl, Nat.le_of_ble_eq_true rfl⟩ hl.1 rfl rfl (Nat.le_of_ble_eq_true rfl) dX5_keep_2 ⟨Nat.zero_le _, Nat.zero_le _⟩ mPre_bl (va_recv hK hP (ci := 5) (q0 := 0) rfl rfl) (mPre_go hP hK hD) hS (fun H locs hP hS => ?_)
  have hD := mw_D (th' := 1) (σ' := (zSetRfs σ (-1 : Int32))) hD
  have hP : va_P D vwCl (MW cI cJ ma 1 (zSetRfs σ (-1 : Int32)) fr) H := hP
  have hD : va_D A (MW cI cJ ma 1 (zSetRfs σ (-1 : Int32)) fr) := hD
  refine lv_lstore_n (lv' := [(2, .long (0 : Int64)), (0, .ref (ma 0)), (1, .int g)]) hx hb dX5_keep_5 rfl hl (by decide) rfl (fun ls hl => ?_)
  refine lv_aload_n hx hb dX5_keep_6 rfl (lv_at hl 1 rfl) ?_
  refine va_get (v := .int 1) (C := RX5) (T := TX5) (N := 11) (ci := 5) hx hb hts inX5 hown hK hP 0 rfl rfl 0 (by decide) (hts _ q583) (fun _ h => h) rfl dX5_keep_7 ?_
  refine c_if_le (tgt := 17) hx hb dX5_keep_10 (by decide) (fun hq => absurd kn9 hq) (fun _ => ?_)
  refine lv_iconst (v := 0) hx hb dX5_keep_13 (by decide) ?_
  refine lv_goto (tgt := 23) hx hb dX5_keep_14 (by decide) ?_
  exact W.iret hx hb hr (fun t ht hW => ⟨rfl, by rw [ht]; exact hP, hS.F ht⟩) hS.2.2 dX5_keep_23
set_option maxHeartbeats 4000000 in
set_option maxRecDepth 100000 in
theorem m_X5_keepB (l : Launch) (D : va_G) (A : Nat → Prop) (cI cJ : ClassId) (ma : Nat → Nat) (th : Int32) (σ : St) (fr : va_W) (g : Int32) (hg : vp_in g 16) (h2 : zCnt σ g.toNatClampNeg = 0) : IM l yX5_keep cX5_keep 4 (some .int) 7 [.ref (ma 0), .int g] (mPre D A cI cJ (MW cI cJ ma th σ fr)) D A (some (.int (0 : Int32))) (MW cI cJ ma 2 (zSetRfs σ (-1 : Int32)) fr) := by
  refine Met.ofW (cc := cX5_keep) (maxL := 4) (ret := (some .int)) (by decide) rfl ?_
  intro p e s m args below meth c s₁ B hml hv
  obtain ⟨rfl, hP, hK, hD⟩ := hv
  have hx := B.exec
  have hb := B.bytes
  have hr := B.returns
  have hts : ∀ w ∈ AW, w.before _ s = true := fun w h => atoms_spec (ws := Cond.code yX5_keep cX5_keep 4 (some .int) :: AW) B.pre w (List.mem_cons_of_mem _ h)
  have hown : s.vm.findClass RX5 = some m.cls := findClass_of_methodNamed B.named
  have hlocks := B.notSynchronized
  have hS : va_S A s.heap s.heap [] := va_S.rf
  have hl := lv_entry ([.ref (ma 0), .int g]) (n := 4) (Nat.le_of_ble_eq_true rfl)
  rw [lg_entry_eq]
  generalize (lg_sl ([.ref (ma 0), .int g]) ++ List.replicate (4 - (lg_sl ([.ref (ma 0), .int g])).length) Slot.unset).toArray = ls at hl ⊢
  have hl : lv_has ls 4 [(0, .ref (ma 0)), (1, .int g)] := hl
  have kn9 : 0 < (2 : Int32) := by decide
  refine lv_aload_n hx hb dX5_keep_0 rfl (lv_at hl 0 rfl) ?_
  refine lv_iload_n hx hb dX5_keep_1 rfl (lv_at hl 1 rfl) ?_
  refine i_V (C := RX5) (rest := []) hx hb hml hown hts (m_X5_doneB l D A cI cJ ma th σ fr g hg h2) q727 q729 q17 q26 q730 rfl nX5_done ⟨Nat.le_of_ble_eq_true rfl, Nat.le_of_ble_eq_true rfl⟩ hl.1 rfl rfl (Nat.le_of_ble_eq_true rfl) dX5_keep_2 ⟨Nat.zero_le _, Nat.zero_le _⟩ mPre_bl (va_recv hK hP (ci := 5) (q0 := 0) rfl rfl) (mPre_go hP hK hD) hS (fun H locs hP hS => ?_)
  have hD := mw_D (th' := 2) (σ' := (zSetRfs σ (-1 : Int32))) hD
  have hP : va_P D vwCl (MW cI cJ ma 2 (zSetRfs σ (-1 : Int32)) fr) H := hP
  have hD : va_D A (MW cI cJ ma 2 (zSetRfs σ (-1 : Int32)) fr) := hD
  refine lv_lstore_n (lv' := [(2, .long (0 : Int64)), (0, .ref (ma 0)), (1, .int g)]) hx hb dX5_keep_5 rfl hl (by decide) rfl (fun ls hl => ?_)
  refine lv_aload_n hx hb dX5_keep_6 rfl (lv_at hl 1 rfl) ?_
  refine va_get (v := .int 2) (C := RX5) (T := TX5) (N := 11) (ci := 5) hx hb hts inX5 hown hK hP 0 rfl rfl 0 (by decide) (hts _ q583) (fun _ h => h) rfl dX5_keep_7 ?_
  refine c_if_le (tgt := 17) hx hb dX5_keep_10 (by decide) (fun hq => absurd kn9 hq) (fun _ => ?_)
  refine lv_iconst (v := 0) hx hb dX5_keep_13 (by decide) ?_
  refine lv_goto (tgt := 23) hx hb dX5_keep_14 (by decide) ?_
  exact W.iret hx hb hr (fun t ht hW => ⟨rfl, by rw [ht]; exact hP, hS.F ht⟩) hS.2.2 dX5_keep_23
set_option maxHeartbeats 4000000 in
set_option maxRecDepth 100000 in
theorem m_X5_keepC (l : Launch) (D : va_G) (A : Nat → Prop) (cI cJ : ClassId) (ma : Nat → Nat) (th : Int32) (σ : St) (fr : va_W) (g : Int32) (n : Nat) (Vd : Int64 → Prop) (hg : vp_in g 16) (hc : ¬ zCnt σ g.toNatClampNeg = 0) (hn : zOrd σ = nI n) (hn12 : n ≤ 12) (hTk : ∀ i, i < n → ¬ sX5_asks (zCds (zSetRfs σ (-1 : Int32)) i) = 0 → vp_in (zOps (zSetRfs σ (-1 : Int32)) i) 16) (hV0 : Vd (zNow σ g.toNatClampNeg)) (hVs : ∀ i v, i < n → Vd v → sX5_refusal (zSetRfs σ (-1 : Int32)) (zCds (zSetRfs σ (-1 : Int32)) i) (zOps (zSetRfs σ (-1 : Int32)) i) (g / (4 : Int32)) v = 0 → doesOK (zSetRfs σ (-1 : Int32)) (zCds (zSetRfs σ (-1 : Int32)) i) (zOps (zSetRfs σ (-1 : Int32)) i) (g / (4 : Int32)) v ∧ Vd (sX5_does (zSetRfs σ (-1 : Int32)) (zCds (zSetRfs σ (-1 : Int32)) i) (zOps (zSetRfs σ (-1 : Int32)) i) (g / (4 : Int32)) v)) (hR : 0 < (mLoop (zSetRfs σ (-1 : Int32)) (g / (4 : Int32)) n 0 (zNow σ g.toNatClampNeg)).2.1) : IM l yX5_keep cX5_keep 4 (some .int) 7 [.ref (ma 0), .int g] (mPre D A cI cJ (MW cI cJ ma th σ fr)) D A (some (.int (0 : Int32))) (MW cI cJ ma (mLoop (zSetRfs σ (-1 : Int32)) (g / (4 : Int32)) n 0 (zNow σ g.toNatClampNeg)).2.1 (zSetRfs (zSetRfs σ (-1 : Int32)) (mLoop (zSetRfs σ (-1 : Int32)) (g / (4 : Int32)) n 0 (zNow σ g.toNatClampNeg)).2.2) fr) := by
  refine Met.ofW (cc := cX5_keep) (maxL := 4) (ret := (some .int)) (by decide) rfl ?_
  intro p e s m args below meth c s₁ B hml hv
  obtain ⟨rfl, hP, hK, hD⟩ := hv
  have hx := B.exec
  have hb := B.bytes
  have hr := B.returns
  have hts : ∀ w ∈ AW, w.before _ s = true := fun w h => atoms_spec (ws := Cond.code yX5_keep cX5_keep 4 (some .int) :: AW) B.pre w (List.mem_cons_of_mem _ h)
  have hown : s.vm.findClass RX5 = some m.cls := findClass_of_methodNamed B.named
  have hlocks := B.notSynchronized
  have hS : va_S A s.heap s.heap [] := va_S.rf
  have hl := lv_entry ([.ref (ma 0), .int g]) (n := 4) (Nat.le_of_ble_eq_true rfl)
  rw [lg_entry_eq]
  generalize (lg_sl ([.ref (ma 0), .int g]) ++ List.replicate (4 - (lg_sl ([.ref (ma 0), .int g])).length) Slot.unset).toArray = ls at hl ⊢
  have hl : lv_has ls 4 [(0, .ref (ma 0)), (1, .int g)] := hl
  refine lv_aload_n hx hb dX5_keep_0 rfl (lv_at hl 0 rfl) ?_
  refine lv_iload_n hx hb dX5_keep_1 rfl (lv_at hl 1 rfl) ?_
  refine i_V (C := RX5) (rest := []) hx hb hml hown hts (m_X5_done l D A cI cJ ma th σ fr g n Vd hg hc hn hn12 hTk hV0 hVs) q727 q729 q17 q26 q730 rfl nX5_done ⟨Nat.le_of_ble_eq_true rfl, Nat.le_of_ble_eq_true rfl⟩ hl.1 rfl rfl (Nat.le_of_ble_eq_true rfl) dX5_keep_2 ⟨Nat.zero_le _, Nat.zero_le _⟩ mPre_bl (va_recv hK hP (ci := 5) (q0 := 0) rfl rfl) (mPre_go hP hK hD) hS (fun H locs hP hS => ?_)
  have hD := mw_D (th' := (mLoop (zSetRfs σ (-1 : Int32)) (g / (4 : Int32)) n 0 (zNow σ g.toNatClampNeg)).2.1) (σ' := (zSetRfs (zSetRfs σ (-1 : Int32)) (mLoop (zSetRfs σ (-1 : Int32)) (g / (4 : Int32)) n 0 (zNow σ g.toNatClampNeg)).2.2)) hD
  have hP : va_P D vwCl (MW cI cJ ma ((mLoop (zSetRfs σ (-1 : Int32)) (g / (4 : Int32)) n 0 (zNow σ g.toNatClampNeg)).2.1) (zSetRfs (zSetRfs σ (-1 : Int32)) (mLoop (zSetRfs σ (-1 : Int32)) (g / (4 : Int32)) n 0 (zNow σ g.toNatClampNeg)).2.2) fr) H := hP
  have hD : va_D A (MW cI cJ ma ((mLoop (zSetRfs σ (-1 : Int32)) (g / (4 : Int32)) n 0 (zNow σ g.toNatClampNeg)).2.1) (zSetRfs (zSetRfs σ (-1 : Int32)) (mLoop (zSetRfs σ (-1 : Int32)) (g / (4 : Int32)) n 0 (zNow σ g.toNatClampNeg)).2.2) fr) := hD
  refine lv_lstore_n (lv' := [(2, .long (if 0 < (mLoop (zSetRfs σ (-1 : Int32)) (g / (4 : Int32)) n 0 (zNow σ g.toNatClampNeg)).2.1 then 0 else (mLoop (zSetRfs σ (-1 : Int32)) (g / (4 : Int32)) n 0 (zNow σ g.toNatClampNeg)).1)), (0, .ref (ma 0)), (1, .int g)]) hx hb dX5_keep_5 rfl hl (by decide) rfl (fun ls hl => ?_)
  refine lv_aload_n hx hb dX5_keep_6 rfl (lv_at hl 1 rfl) ?_
  refine va_get (v := .int (mLoop (zSetRfs σ (-1 : Int32)) (g / (4 : Int32)) n 0 (zNow σ g.toNatClampNeg)).2.1) (C := RX5) (T := TX5) (N := 11) (ci := 5) hx hb hts inX5 hown hK hP 0 rfl rfl 0 (by decide) (hts _ q583) (fun _ h => h) rfl dX5_keep_7 ?_
  refine c_if_le (tgt := 17) hx hb dX5_keep_10 (by decide) (fun hq => absurd hR hq) (fun _ => ?_)
  refine lv_iconst (v := 0) hx hb dX5_keep_13 (by decide) ?_
  refine lv_goto (tgt := 23) hx hb dX5_keep_14 (by decide) ?_
  exact W.iret hx hb hr (fun t ht hW => ⟨rfl, by rw [ht]; exact hP, hS.F ht⟩) hS.2.2 dX5_keep_23
set_option maxHeartbeats 4000000 in
set_option maxRecDepth 100000 in
theorem m_X5_keepD (l : Launch) (D : va_G) (A : Nat → Prop) (cI cJ : ClassId) (ma : Nat → Nat) (th : Int32) (σ : St) (fr : va_W) (g : Int32) (n : Nat) (Vd : Int64 → Prop) (hg : vp_in g 16) (hc : ¬ zCnt σ g.toNatClampNeg = 0) (hn : zOrd σ = nI n) (hn12 : n ≤ 12) (hTk : ∀ i, i < n → ¬ sX5_asks (zCds (zSetRfs σ (-1 : Int32)) i) = 0 → vp_in (zOps (zSetRfs σ (-1 : Int32)) i) 16) (hV0 : Vd (zNow σ g.toNatClampNeg)) (hVs : ∀ i v, i < n → Vd v → sX5_refusal (zSetRfs σ (-1 : Int32)) (zCds (zSetRfs σ (-1 : Int32)) i) (zOps (zSetRfs σ (-1 : Int32)) i) (g / (4 : Int32)) v = 0 → doesOK (zSetRfs σ (-1 : Int32)) (zCds (zSetRfs σ (-1 : Int32)) i) (zOps (zSetRfs σ (-1 : Int32)) i) (g / (4 : Int32)) v ∧ Vd (sX5_does (zSetRfs σ (-1 : Int32)) (zCds (zSetRfs σ (-1 : Int32)) i) (zOps (zSetRfs σ (-1 : Int32)) i) (g / (4 : Int32)) v)) (hR : ¬ 0 < (mLoop (zSetRfs σ (-1 : Int32)) (g / (4 : Int32)) n 0 (zNow σ g.toNatClampNeg)).2.1) (hT : takeOK (zSetRfs (zSetRfs σ (-1 : Int32)) (mLoop (zSetRfs σ (-1 : Int32)) (g / (4 : Int32)) n 0 (zNow σ g.toNatClampNeg)).2.2) g (if 0 < (mLoop (zSetRfs σ (-1 : Int32)) (g / (4 : Int32)) n 0 (zNow σ g.toNatClampNeg)).2.1 then 0 else (mLoop (zSetRfs σ (-1 : Int32)) (g / (4 : Int32)) n 0 (zNow σ g.toNatClampNeg)).1)) : IM l yX5_keep cX5_keep 4 (some .int) 7 [.ref (ma 0), .int g] (mPre D A cI cJ (MW cI cJ ma th σ fr)) D A (some (.int (sX5_take (zSetRfs (zSetRfs σ (-1 : Int32)) (mLoop (zSetRfs σ (-1 : Int32)) (g / (4 : Int32)) n 0 (zNow σ g.toNatClampNeg)).2.2) g (if 0 < (mLoop (zSetRfs σ (-1 : Int32)) (g / (4 : Int32)) n 0 (zNow σ g.toNatClampNeg)).2.1 then 0 else (mLoop (zSetRfs σ (-1 : Int32)) (g / (4 : Int32)) n 0 (zNow σ g.toNatClampNeg)).1)))) (MW cI cJ ma (hX5_take (mLoop (zSetRfs σ (-1 : Int32)) (g / (4 : Int32)) n 0 (zNow σ g.toNatClampNeg)).2.1 (zSetRfs (zSetRfs σ (-1 : Int32)) (mLoop (zSetRfs σ (-1 : Int32)) (g / (4 : Int32)) n 0 (zNow σ g.toNatClampNeg)).2.2) g (if 0 < (mLoop (zSetRfs σ (-1 : Int32)) (g / (4 : Int32)) n 0 (zNow σ g.toNatClampNeg)).2.1 then 0 else (mLoop (zSetRfs σ (-1 : Int32)) (g / (4 : Int32)) n 0 (zNow σ g.toNatClampNeg)).1)) (tX5_take (zSetRfs (zSetRfs σ (-1 : Int32)) (mLoop (zSetRfs σ (-1 : Int32)) (g / (4 : Int32)) n 0 (zNow σ g.toNatClampNeg)).2.2) g (if 0 < (mLoop (zSetRfs σ (-1 : Int32)) (g / (4 : Int32)) n 0 (zNow σ g.toNatClampNeg)).2.1 then 0 else (mLoop (zSetRfs σ (-1 : Int32)) (g / (4 : Int32)) n 0 (zNow σ g.toNatClampNeg)).1)) fr) := by
  refine Met.ofW (cc := cX5_keep) (maxL := 4) (ret := (some .int)) (by decide) rfl ?_
  intro p e s m args below meth c s₁ B hml hv
  obtain ⟨rfl, hP, hK, hD⟩ := hv
  have hx := B.exec
  have hb := B.bytes
  have hr := B.returns
  have hts : ∀ w ∈ AW, w.before _ s = true := fun w h => atoms_spec (ws := Cond.code yX5_keep cX5_keep 4 (some .int) :: AW) B.pre w (List.mem_cons_of_mem _ h)
  have hown : s.vm.findClass RX5 = some m.cls := findClass_of_methodNamed B.named
  have hlocks := B.notSynchronized
  have hS : va_S A s.heap s.heap [] := va_S.rf
  have hl := lv_entry ([.ref (ma 0), .int g]) (n := 4) (Nat.le_of_ble_eq_true rfl)
  rw [lg_entry_eq]
  generalize (lg_sl ([.ref (ma 0), .int g]) ++ List.replicate (4 - (lg_sl ([.ref (ma 0), .int g])).length) Slot.unset).toArray = ls at hl ⊢
  have hl : lv_has ls 4 [(0, .ref (ma 0)), (1, .int g)] := hl
  refine lv_aload_n hx hb dX5_keep_0 rfl (lv_at hl 0 rfl) ?_
  refine lv_iload_n hx hb dX5_keep_1 rfl (lv_at hl 1 rfl) ?_
  refine i_V (C := RX5) (rest := []) hx hb hml hown hts (m_X5_done l D A cI cJ ma th σ fr g n Vd hg hc hn hn12 hTk hV0 hVs) q727 q729 q17 q26 q730 rfl nX5_done ⟨Nat.le_of_ble_eq_true rfl, Nat.le_of_ble_eq_true rfl⟩ hl.1 rfl rfl (Nat.le_of_ble_eq_true rfl) dX5_keep_2 ⟨Nat.zero_le _, Nat.zero_le _⟩ mPre_bl (va_recv hK hP (ci := 5) (q0 := 0) rfl rfl) (mPre_go hP hK hD) hS (fun H locs hP hS => ?_)
  have hD := mw_D (th' := (mLoop (zSetRfs σ (-1 : Int32)) (g / (4 : Int32)) n 0 (zNow σ g.toNatClampNeg)).2.1) (σ' := (zSetRfs (zSetRfs σ (-1 : Int32)) (mLoop (zSetRfs σ (-1 : Int32)) (g / (4 : Int32)) n 0 (zNow σ g.toNatClampNeg)).2.2)) hD
  have hP : va_P D vwCl (MW cI cJ ma ((mLoop (zSetRfs σ (-1 : Int32)) (g / (4 : Int32)) n 0 (zNow σ g.toNatClampNeg)).2.1) (zSetRfs (zSetRfs σ (-1 : Int32)) (mLoop (zSetRfs σ (-1 : Int32)) (g / (4 : Int32)) n 0 (zNow σ g.toNatClampNeg)).2.2) fr) H := hP
  have hD : va_D A (MW cI cJ ma ((mLoop (zSetRfs σ (-1 : Int32)) (g / (4 : Int32)) n 0 (zNow σ g.toNatClampNeg)).2.1) (zSetRfs (zSetRfs σ (-1 : Int32)) (mLoop (zSetRfs σ (-1 : Int32)) (g / (4 : Int32)) n 0 (zNow σ g.toNatClampNeg)).2.2) fr) := hD
  refine lv_lstore_n (lv' := [(2, .long (if 0 < (mLoop (zSetRfs σ (-1 : Int32)) (g / (4 : Int32)) n 0 (zNow σ g.toNatClampNeg)).2.1 then 0 else (mLoop (zSetRfs σ (-1 : Int32)) (g / (4 : Int32)) n 0 (zNow σ g.toNatClampNeg)).1)), (0, .ref (ma 0)), (1, .int g)]) hx hb dX5_keep_5 rfl hl (by decide) rfl (fun ls hl => ?_)
  refine lv_aload_n hx hb dX5_keep_6 rfl (lv_at hl 1 rfl) ?_
  refine va_get (v := .int (mLoop (zSetRfs σ (-1 : Int32)) (g / (4 : Int32)) n 0 (zNow σ g.toNatClampNeg)).2.1) (C := RX5) (T := TX5) (N := 11) (ci := 5) hx hb hts inX5 hown hK hP 0 rfl rfl 0 (by decide) (hts _ q583) (fun _ h => h) rfl dX5_keep_7 ?_
  refine c_if_le (tgt := 17) hx hb dX5_keep_10 (by decide) (fun _ => ?_) (fun hq => absurd hq hR)
  refine lv_aload_n hx hb dX5_keep_17 rfl (lv_at hl 1 rfl) ?_
  refine lv_iload_n hx hb dX5_keep_18 rfl (lv_at hl 2 rfl) ?_
  refine lv_lload_n hx hb dX5_keep_19 rfl (lv_at hl 0 rfl) ?_
  refine i_V (C := RX5) (rest := []) hx hb hml hown hts (m_X5_take l D A cI cJ ma ((mLoop (zSetRfs σ (-1 : Int32)) (g / (4 : Int32)) n 0 (zNow σ g.toNatClampNeg)).2.1) (zSetRfs (zSetRfs σ (-1 : Int32)) (mLoop (zSetRfs σ (-1 : Int32)) (g / (4 : Int32)) n 0 (zNow σ g.toNatClampNeg)).2.2) fr g (if 0 < (mLoop (zSetRfs σ (-1 : Int32)) (g / (4 : Int32)) n 0 (zNow σ g.toNatClampNeg)).2.1 then 0 else (mLoop (zSetRfs σ (-1 : Int32)) (g / (4 : Int32)) n 0 (zNow σ g.toNatClampNeg)).1) hT) q636 q638 q16 q26 q639 rfl nX5_take ⟨Nat.le_of_ble_eq_true rfl, Nat.le_of_ble_eq_true rfl⟩ hl.1 rfl rfl (Nat.le_of_ble_eq_true rfl) dX5_keep_20 ⟨Nat.zero_le _, Nat.zero_le _⟩ mPre_bl (va_recv hK hP (ci := 5) (q0 := 0) rfl rfl) (mPre_go hP hK hD) hS (fun H locs hP hS => ?_)
  have hD := mw_D (th' := (hX5_take ((mLoop (zSetRfs σ (-1 : Int32)) (g / (4 : Int32)) n 0 (zNow σ g.toNatClampNeg)).2.1) (zSetRfs (zSetRfs σ (-1 : Int32)) (mLoop (zSetRfs σ (-1 : Int32)) (g / (4 : Int32)) n 0 (zNow σ g.toNatClampNeg)).2.2) g (if 0 < (mLoop (zSetRfs σ (-1 : Int32)) (g / (4 : Int32)) n 0 (zNow σ g.toNatClampNeg)).2.1 then 0 else (mLoop (zSetRfs σ (-1 : Int32)) (g / (4 : Int32)) n 0 (zNow σ g.toNatClampNeg)).1))) (σ' := (tX5_take (zSetRfs (zSetRfs σ (-1 : Int32)) (mLoop (zSetRfs σ (-1 : Int32)) (g / (4 : Int32)) n 0 (zNow σ g.toNatClampNeg)).2.2) g (if 0 < (mLoop (zSetRfs σ (-1 : Int32)) (g / (4 : Int32)) n 0 (zNow σ g.toNatClampNeg)).2.1 then 0 else (mLoop (zSetRfs σ (-1 : Int32)) (g / (4 : Int32)) n 0 (zNow σ g.toNatClampNeg)).1))) hD
  have hP : va_P D vwCl (MW cI cJ ma (hX5_take ((mLoop (zSetRfs σ (-1 : Int32)) (g / (4 : Int32)) n 0 (zNow σ g.toNatClampNeg)).2.1) (zSetRfs (zSetRfs σ (-1 : Int32)) (mLoop (zSetRfs σ (-1 : Int32)) (g / (4 : Int32)) n 0 (zNow σ g.toNatClampNeg)).2.2) g (if 0 < (mLoop (zSetRfs σ (-1 : Int32)) (g / (4 : Int32)) n 0 (zNow σ g.toNatClampNeg)).2.1 then 0 else (mLoop (zSetRfs σ (-1 : Int32)) (g / (4 : Int32)) n 0 (zNow σ g.toNatClampNeg)).1)) (tX5_take (zSetRfs (zSetRfs σ (-1 : Int32)) (mLoop (zSetRfs σ (-1 : Int32)) (g / (4 : Int32)) n 0 (zNow σ g.toNatClampNeg)).2.2) g (if 0 < (mLoop (zSetRfs σ (-1 : Int32)) (g / (4 : Int32)) n 0 (zNow σ g.toNatClampNeg)).2.1 then 0 else (mLoop (zSetRfs σ (-1 : Int32)) (g / (4 : Int32)) n 0 (zNow σ g.toNatClampNeg)).1)) fr) H := hP
  have hD : va_D A (MW cI cJ ma (hX5_take ((mLoop (zSetRfs σ (-1 : Int32)) (g / (4 : Int32)) n 0 (zNow σ g.toNatClampNeg)).2.1) (zSetRfs (zSetRfs σ (-1 : Int32)) (mLoop (zSetRfs σ (-1 : Int32)) (g / (4 : Int32)) n 0 (zNow σ g.toNatClampNeg)).2.2) g (if 0 < (mLoop (zSetRfs σ (-1 : Int32)) (g / (4 : Int32)) n 0 (zNow σ g.toNatClampNeg)).2.1 then 0 else (mLoop (zSetRfs σ (-1 : Int32)) (g / (4 : Int32)) n 0 (zNow σ g.toNatClampNeg)).1)) (tX5_take (zSetRfs (zSetRfs σ (-1 : Int32)) (mLoop (zSetRfs σ (-1 : Int32)) (g / (4 : Int32)) n 0 (zNow σ g.toNatClampNeg)).2.2) g (if 0 < (mLoop (zSetRfs σ (-1 : Int32)) (g / (4 : Int32)) n 0 (zNow σ g.toNatClampNeg)).2.1 then 0 else (mLoop (zSetRfs σ (-1 : Int32)) (g / (4 : Int32)) n 0 (zNow σ g.toNatClampNeg)).1)) fr) := hD
  exact W.iret hx hb hr (fun t ht hW => ⟨rfl, by rw [ht]; exact hP, hS.F ht⟩) hS.2.2 dX5_keep_23
