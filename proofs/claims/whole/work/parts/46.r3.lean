def sX4_reach (σ : St) (a : Int32) (b : Int32) : Int64 := (so_withHalf (a.toNatClampNeg / 4) (so_greater (a.toNatClampNeg / 4) (so_size (a.toNatClampNeg / 4) (zNow σ a.toNatClampNeg)) (so_size (a.toNatClampNeg / 4) (zNow σ b.toNatClampNeg))) (so_lesser (a.toNatClampNeg / 4) (so_size (a.toNatClampNeg / 4) (zNow σ a.toNatClampNeg)) (so_size (a.toNatClampNeg / 4) (zNow σ b.toNatClampNeg))))
theorem nX4_reach : yX4_reach.cls ≠ "java/lang/invoke/MethodHandle" ∧ yX4_reach.cls ≠ "java/lang/invoke/VarHandle" ∧ (parseMethodDescriptor yX4_reach.desc).map (fun d => d.parameters.length) = some 2 := by decide +kernel
set_option maxHeartbeats 4000000 in
set_option maxRecDepth 100000 in
theorem m_X4_reach (l : Launch) (D : va_G) (A : Nat → Prop) (cI cB : ClassId) (ra : Nat → Nat) (σ : St) (fr : va_W) (a : Int32) (b : Int32) (hg : vp_in a 16) (hh : vp_in b 16) (h1 : (sX4_sortOf a) = (sX4_sortOf b)) (h2 : ¬ (zCnt σ a.toNatClampNeg) = 0) (h3 : ¬ (zCnt σ b.toNatClampNeg) = 0) : PM l yX4_reach cX4_reach 10 (some .long) 6 [.ref (ra 0), .int a, .int b] (rPre D A cI cB (RW cI cB ra σ fr)) (.long (sX4_reach σ a b)) := by
  refine Met.ofW (cc := cX4_reach) (maxL := 10) (ret := (some .long)) (by decide) rfl ?_
  intro p e s m args below meth c s₁ B hml hv
  obtain ⟨rfl, hP, hK, hD, hA, hN, hT⟩ := hv
  have hx := B.exec
  have hb := B.bytes
  have hr := B.returns
  have hts : ∀ w ∈ AW, w.before _ s = true := fun w h => atoms_spec (ws := Cond.code yX4_reach cX4_reach 10 (some .long) :: AW) B.pre w (List.mem_cons_of_mem _ h)
  have hown : s.vm.findClass RX4 = some m.cls := findClass_of_methodNamed B.named
  have hlocks := B.notSynchronized
  have hS : va_S A s.heap s.heap [] := va_S.rf
  have hK0 := hK.sub (tys' := []) [] rfl
  have hl := lv_entry ([.ref (ra 0), .int a, .int b]) (n := 10) (Nat.le_of_ble_eq_true rfl)
  rw [lg_entry_eq]
  generalize (lg_sl ([.ref (ra 0), .int a, .int b]) ++ List.replicate (10 - (lg_sl ([.ref (ra 0), .int a, .int b])).length) Slot.unset).toArray = ls at hl ⊢
  have hl : lv_has ls 10 [(0, .ref (ra 0)), (1, .int a), (2, .int b)] := hl
  have kn0 : (sX4_sortOf a) = (sX4_sortOf b) := h1
  have kn1 : ¬ (zCnt σ a.toNatClampNeg) = 0 := h2
  have kn2 : ¬ (zCnt σ b.toNatClampNeg) = 0 := h3
  refine lv_aload_n hx hb dX4_reach_0 rfl (lv_at hl 0 rfl) ?_
  refine lv_iload_n hx hb dX4_reach_1 rfl (lv_at hl 1 rfl) ?_
  refine p_V (C := RX4) (rest := []) hx hb hml hown hts (m_X4_balanceAt l D A cI cB ra σ fr a hg) q159 q161 q0 q21 q162 rfl nX4_balanceAt ⟨Nat.le_of_ble_eq_true rfl, Nat.le_of_ble_eq_true rfl⟩ hl.1 rfl rfl (Nat.le_of_ble_eq_true rfl) dX4_reach_2 ⟨Nat.zero_le _, Nat.zero_le _⟩ rPre_bl (va_recv hK hP (ci := 4) (q0 := 0) rfl rfl) (rPre_go hP hK hD hA hN hT hS) ?_
  refine lv_astore_n (lv' := [(3, .ref (ra (4 + a.toNatClampNeg))), (0, .ref (ra 0)), (1, .int a), (2, .int b)]) hx hb dX4_reach_5 rfl hl (by decide) rfl (fun ls hl => ?_)
  refine lv_aload_n hx hb dX4_reach_6 rfl (lv_at hl 1 rfl) ?_
  refine lv_iload_n hx hb dX4_reach_7 rfl (lv_at hl 3 rfl) ?_
  refine p_V (C := RX4) (rest := []) hx hb hml hown hts (m_X4_balanceAt l D A cI cB ra σ fr b hh) q159 q161 q0 q21 q162 rfl nX4_balanceAt ⟨Nat.le_of_ble_eq_true rfl, Nat.le_of_ble_eq_true rfl⟩ hl.1 rfl rfl (Nat.le_of_ble_eq_true rfl) dX4_reach_8 ⟨Nat.zero_le _, Nat.zero_le _⟩ rPre_bl (va_recv hK hP (ci := 4) (q0 := 0) rfl rfl) (rPre_go hP hK hD hA hN hT hS) ?_
  refine lv_astore (lv' := [(4, .ref (ra (4 + b.toNatClampNeg))), (3, .ref (ra (4 + a.toNatClampNeg))), (0, .ref (ra 0)), (1, .int a), (2, .int b)]) hx hb dX4_reach_11 hl (by decide) rfl (fun ls hl => ?_)
  refine lv_iload_n hx hb dX4_reach_13 rfl (lv_at hl 3 rfl) ?_
  refine p_S (rest := []) hx hb hml hown hts (m_X4_sortOf l a) q410 q411 q21 q412 nX4_sortOf ⟨Nat.le_of_ble_eq_true rfl, Nat.le_of_ble_eq_true rfl⟩ hl.1 rfl rfl (Nat.le_of_ble_eq_true rfl) dX4_reach_14 ⟨Nat.zero_le _, Nat.zero_le _⟩ blind_c (fun _ _ _ => trivial) ?_
  refine lv_iload_n hx hb dX4_reach_17 rfl (lv_at hl 4 rfl) ?_
  refine p_S (rest := [.int (sX4_sortOf a)]) hx hb hml hown hts (m_X4_sortOf l b) q410 q411 q21 q412 nX4_sortOf ⟨Nat.le_of_ble_eq_true rfl, Nat.le_of_ble_eq_true rfl⟩ hl.1 rfl rfl (Nat.le_of_ble_eq_true rfl) dX4_reach_18 ⟨Nat.zero_le _, Nat.zero_le _⟩ blind_c (fun _ _ _ => trivial) ?_
  refine c_icmp_eq (tgt := 34) hx hb dX4_reach_21 (by decide) (fun _ => ?_) (fun hq => absurd kn0 hq)
  refine lv_aload_n hx hb dX4_reach_34 rfl (lv_at hl 1 rfl) ?_
  refine va_get (v := .int (zCnt σ a.toNatClampNeg)) (C := RX0) (T := TX0) (N := 7) (ci := 1) hx hb hts inX0 hown hK hP (4 + a.toNatClampNeg) (rw_bal (vp_lt hg)) rfl 1 (by decide) (hts _ q101) (fun _ h => h) rfl dX4_reach_35 ?_
  refine c_if_eq (tgt := 49) hx hb dX4_reach_38 (by decide) (fun hq => absurd hq kn1) (fun _ => ?_)
  refine lv_aload hx hb dX4_reach_41 (lv_at hl 0 rfl) ?_
  refine va_get (v := .int (zCnt σ b.toNatClampNeg)) (C := RX0) (T := TX0) (N := 7) (ci := 1) hx hb hts inX0 hown hK hP (4 + b.toNatClampNeg) (rw_bal (vp_lt hh)) rfl 1 (by decide) (hts _ q101) (fun _ h => h) rfl dX4_reach_43 ?_
  refine c_if_ne (tgt := 59) hx hb dX4_reach_46 (by decide) (fun _ => ?_) (fun hq => absurd hq kn2)
  refine lv_aload_n hx hb dX4_reach_59 rfl (lv_at hl 1 rfl) ?_
  refine va_get (v := .ref (ra (20 + a.toNatClampNeg / 4))) (C := RX0) (T := TX0) (N := 7) (ci := 1) hx hb hts inX0 hown hK hP (4 + a.toNatClampNeg) (rw_bal (vp_lt hg)) rfl 0 (by decide) (hts _ q99) (fun _ h => h) rfl dX4_reach_60 ?_
  refine lv_astore (lv' := [(5, .ref (ra (20 + a.toNatClampNeg / 4))), (4, .ref (ra (4 + b.toNatClampNeg))), (3, .ref (ra (4 + a.toNatClampNeg))), (0, .ref (ra 0)), (1, .int a), (2, .int b)]) hx hb dX4_reach_63 hl (by decide) rfl (fun ls hl => ?_)
  refine lv_aload hx hb dX4_reach_65 (lv_at hl 0 rfl) ?_
  refine lv_aload_n hx hb dX4_reach_67 rfl (lv_at hl 2 rfl) ?_
  refine va_get (v := .long (zNow σ a.toNatClampNeg)) (C := RX0) (T := TX0) (N := 7) (ci := 1) hx hb hts inX0 hown hK hP (4 + a.toNatClampNeg) (rw_bal (vp_lt hg)) rfl 2 (by decide) (hts _ q103) (fun _ h => h) rfl dX4_reach_68 ?_
  refine u_size (k := (a.toNatClampNeg / 4)) (rest := []) hx hb hml hown hts hA hK0 (k4 hg) (rw_soP hP (k4 hg)) q430 ⟨Nat.le_of_ble_eq_true rfl, Nat.le_of_ble_eq_true rfl⟩ ⟨Nat.zero_le _, Nat.zero_le _⟩ hl.1 (Nat.le_of_ble_eq_true rfl) dX4_reach_71 ?_
  refine lv_lstore (lv' := [(6, .long (so_size (a.toNatClampNeg / 4) (zNow σ a.toNatClampNeg))), (5, .ref (ra (20 + a.toNatClampNeg / 4))), (4, .ref (ra (4 + b.toNatClampNeg))), (3, .ref (ra (4 + a.toNatClampNeg))), (0, .ref (ra 0)), (1, .int a), (2, .int b)]) hx hb dX4_reach_74 hl (by decide) rfl (fun ls hl => ?_)
  refine lv_aload hx hb dX4_reach_76 (lv_at hl 1 rfl) ?_
  refine lv_aload hx hb dX4_reach_78 (lv_at hl 2 rfl) ?_
  refine va_get (v := .long (zNow σ b.toNatClampNeg)) (C := RX0) (T := TX0) (N := 7) (ci := 1) hx hb hts inX0 hown hK hP (4 + b.toNatClampNeg) (rw_bal (vp_lt hh)) rfl 2 (by decide) (hts _ q103) (fun _ h => h) rfl dX4_reach_80 ?_
  refine u_size (k := (a.toNatClampNeg / 4)) (rest := []) hx hb hml hown hts hA hK0 (k4 hg) (rw_soP hP (k4 hg)) q430 ⟨Nat.le_of_ble_eq_true rfl, Nat.le_of_ble_eq_true rfl⟩ ⟨Nat.zero_le _, Nat.zero_le _⟩ hl.1 (Nat.le_of_ble_eq_true rfl) dX4_reach_83 ?_
  refine lv_lstore (lv' := [(8, .long (so_size (a.toNatClampNeg / 4) (zNow σ b.toNatClampNeg))), (6, .long (so_size (a.toNatClampNeg / 4) (zNow σ a.toNatClampNeg))), (5, .ref (ra (20 + a.toNatClampNeg / 4))), (4, .ref (ra (4 + b.toNatClampNeg))), (3, .ref (ra (4 + a.toNatClampNeg))), (0, .ref (ra 0)), (1, .int a), (2, .int b)]) hx hb dX4_reach_86 hl (by decide) rfl (fun ls hl => ?_)
  refine lv_aload hx hb dX4_reach_88 (lv_at hl 2 rfl) ?_
  refine lv_aload hx hb dX4_reach_90 (lv_at hl 2 rfl) ?_
  refine lv_lload hx hb dX4_reach_92 (lv_at hl 1 rfl) ?_
  refine lv_lload hx hb dX4_reach_94 (lv_at hl 0 rfl) ?_
  refine u_greater (k := (a.toNatClampNeg / 4)) (rest := [.ref (ra (20 + a.toNatClampNeg / 4))]) hx hb hml hown hts hA hK0 (k4 hg) (rw_soP hP (k4 hg)) q485 ⟨Nat.le_of_ble_eq_true rfl, Nat.le_of_ble_eq_true rfl⟩ ⟨Nat.zero_le _, Nat.zero_le _⟩ hl.1 (Nat.le_of_ble_eq_true rfl) dX4_reach_96 ?_
  refine lv_aload hx hb dX4_reach_99 (lv_at hl 2 rfl) ?_
  refine lv_lload hx hb dX4_reach_101 (lv_at hl 1 rfl) ?_
  refine lv_lload hx hb dX4_reach_103 (lv_at hl 0 rfl) ?_
  refine u_lesser (k := (a.toNatClampNeg / 4)) (rest := [.long (so_greater (a.toNatClampNeg / 4) (so_size (a.toNatClampNeg / 4) (zNow σ a.toNatClampNeg)) (so_size (a.toNatClampNeg / 4) (zNow σ b.toNatClampNeg))), .ref (ra (20 + a.toNatClampNeg / 4))]) hx hb hml hown hts hA hK0 (k4 hg) (rw_soP hP (k4 hg)) q486 ⟨Nat.le_of_ble_eq_true rfl, Nat.le_of_ble_eq_true rfl⟩ ⟨Nat.zero_le _, Nat.zero_le _⟩ hl.1 (Nat.le_of_ble_eq_true rfl) dX4_reach_105 ?_
  refine u_withHalf (k := (a.toNatClampNeg / 4)) (rest := []) hx hb hml hown hts hA hK0 (k4 hg) (rw_soP hP (k4 hg)) q540 ⟨Nat.le_of_ble_eq_true rfl, Nat.le_of_ble_eq_true rfl⟩ ⟨Nat.zero_le _, Nat.zero_le _⟩ hl.1 (Nat.le_of_ble_eq_true rfl) dX4_reach_108 ?_
  exact W.lret hx hb hr (fun t ht hW => pq_l (rfl) ht) nil_free dX4_reach_111
set_option maxHeartbeats 4000000 in
set_option maxRecDepth 100000 in
theorem x_X4_reachA (l : Launch) (D : va_G) (A : Nat → Prop) (cI cB : ClassId) (ra : Nat → Nat) (σ : St) (fr : va_W) (a : Int32) (b : Int32) (hst : l.stackTraces = false) (hg : ¬ vp_in a 16) : XM l yX4_reach cX4_reach 10 (some .long) 7 [.ref (ra 0), .int a, .int b] (rPre D A cI cB (RW cI cB ra σ fr)) xIA D A (RW cI cB ra σ fr) := by
  refine vx_ofW (cc := cX4_reach) (maxL := 10) (ret := (some .long)) (by decide) rfl ?_
  intro p e s m args below meth c s₁ B hml htb hv
  obtain ⟨rfl, hP, hK, hD, hA, hN, hT⟩ := hv
  have hx := B.exec
  have hb := B.bytes
  have hr := B.returns
  have hts : ∀ w ∈ AW, w.before _ s = true := fun w h => atoms_spec (ws := Cond.code yX4_reach cX4_reach 10 (some .long) :: AW) B.pre w (List.mem_cons_of_mem _ h)
  have hown : s.vm.findClass RX4 = some m.cls := findClass_of_methodNamed B.named
  have hlocks := B.notSynchronized
  have hS : va_S A s.heap s.heap [] := va_S.rf
  have hK0 := hK.sub (tys' := []) [] rfl
  have hl := lv_entry ([.ref (ra 0), .int a, .int b]) (n := 10) (Nat.le_of_ble_eq_true rfl)
  rw [lg_entry_eq]
  generalize (lg_sl ([.ref (ra 0), .int a, .int b]) ++ List.replicate (10 - (lg_sl ([.ref (ra 0), .int a, .int b])).length) Slot.unset).toArray = ls at hl ⊢
  have hl : lv_has ls 10 [(0, .ref (ra 0)), (1, .int a), (2, .int b)] := hl
  refine lv_aload_n hx hb dX4_reach_0 rfl (lv_at hl 0 rfl) ?_
  refine lv_iload_n hx hb dX4_reach_1 rfl (lv_at hl 1 rfl) ?_
  exact x_out (C := RX4) (rest := []) hx hb hml hown hts htb (x_X4_balanceAtN l D A cI cB ra σ fr a hst hg) q159 q161 q0 q21 q162 rfl nX4_balanceAt ⟨Nat.le_of_ble_eq_true rfl, Nat.le_of_ble_eq_true rfl⟩ hl.1 rfl rfl (Nat.le_of_ble_eq_true rfl) dX4_reach_2 ⟨Nat.le_of_ble_eq_true rfl, Nat.le_of_ble_eq_true rfl⟩ rPre_bl (va_recv hK hP (ci := 4) (q0 := 0) rfl rfl) (rPre_go hP hK hD hA hN hT hS) hS hlocks
set_option maxHeartbeats 4000000 in
set_option maxRecDepth 100000 in
theorem x_X4_reachB (l : Launch) (D : va_G) (A : Nat → Prop) (cI cB : ClassId) (ra : Nat → Nat) (σ : St) (fr : va_W) (a : Int32) (b : Int32) (hst : l.stackTraces = false) (hg : vp_in a 16) (hh : ¬ vp_in b 16) : XM l yX4_reach cX4_reach 10 (some .long) 7 [.ref (ra 0), .int a, .int b] (rPre D A cI cB (RW cI cB ra σ fr)) xIA D A (RW cI cB ra σ fr) := by
  refine vx_ofW (cc := cX4_reach) (maxL := 10) (ret := (some .long)) (by decide) rfl ?_
  intro p e s m args below meth c s₁ B hml htb hv
  obtain ⟨rfl, hP, hK, hD, hA, hN, hT⟩ := hv
  have hx := B.exec
  have hb := B.bytes
  have hr := B.returns
  have hts : ∀ w ∈ AW, w.before _ s = true := fun w h => atoms_spec (ws := Cond.code yX4_reach cX4_reach 10 (some .long) :: AW) B.pre w (List.mem_cons_of_mem _ h)
  have hown : s.vm.findClass RX4 = some m.cls := findClass_of_methodNamed B.named
  have hlocks := B.notSynchronized
  have hS : va_S A s.heap s.heap [] := va_S.rf
  have hK0 := hK.sub (tys' := []) [] rfl
  have hl := lv_entry ([.ref (ra 0), .int a, .int b]) (n := 10) (Nat.le_of_ble_eq_true rfl)
  rw [lg_entry_eq]
  generalize (lg_sl ([.ref (ra 0), .int a, .int b]) ++ List.replicate (10 - (lg_sl ([.ref (ra 0), .int a, .int b])).length) Slot.unset).toArray = ls at hl ⊢
  have hl : lv_has ls 10 [(0, .ref (ra 0)), (1, .int a), (2, .int b)] := hl
  refine lv_aload_n hx hb dX4_reach_0 rfl (lv_at hl 0 rfl) ?_
  refine lv_iload_n hx hb dX4_reach_1 rfl (lv_at hl 1 rfl) ?_
  refine p_V (C := RX4) (rest := []) hx hb hml hown hts (m_X4_balanceAt l D A cI cB ra σ fr a hg) q159 q161 q0 q21 q162 rfl nX4_balanceAt ⟨Nat.le_of_ble_eq_true rfl, Nat.le_of_ble_eq_true rfl⟩ hl.1 rfl rfl (Nat.le_of_ble_eq_true rfl) dX4_reach_2 ⟨Nat.zero_le _, Nat.zero_le _⟩ rPre_bl (va_recv hK hP (ci := 4) (q0 := 0) rfl rfl) (rPre_go hP hK hD hA hN hT hS) ?_
  refine lv_astore_n (lv' := [(3, .ref (ra (4 + a.toNatClampNeg))), (0, .ref (ra 0)), (1, .int a), (2, .int b)]) hx hb dX4_reach_5 rfl hl (by decide) rfl (fun ls hl => ?_)
  refine lv_aload_n hx hb dX4_reach_6 rfl (lv_at hl 1 rfl) ?_
  refine lv_iload_n hx hb dX4_reach_7 rfl (lv_at hl 3 rfl) ?_
  exact x_out (C := RX4) (rest := []) hx hb hml hown hts htb (x_X4_balanceAtN l D A cI cB ra σ fr b hst hh) q159 q161 q0 q21 q162 rfl nX4_balanceAt ⟨Nat.le_of_ble_eq_true rfl, Nat.le_of_ble_eq_true rfl⟩ hl.1 rfl rfl (Nat.le_of_ble_eq_true rfl) dX4_reach_8 ⟨Nat.le_of_ble_eq_true rfl, Nat.le_of_ble_eq_true rfl⟩ rPre_bl (va_recv hK hP (ci := 4) (q0 := 0) rfl rfl) (rPre_go hP hK hD hA hN hT hS) hS hlocks
set_option maxHeartbeats 4000000 in
set_option maxRecDepth 100000 in
theorem x_X4_reachC (l : Launch) (D : va_G) (A : Nat → Prop) (cI cB : ClassId) (ra : Nat → Nat) (σ : St) (fr : va_W) (a : Int32) (b : Int32) (hst : l.stackTraces = false) (hg : vp_in a 16) (hh : vp_in b 16) (h1 : ¬ (sX4_sortOf a) = (sX4_sortOf b)) : XM l yX4_reach cX4_reach 10 (some .long) 7 [.ref (ra 0), .int a, .int b] (rPre D A cI cB (RW cI cB ra σ fr)) xIS D A (RW cI cB ra σ fr) := by
  refine vx_ofW (cc := cX4_reach) (maxL := 10) (ret := (some .long)) (by decide) rfl ?_
  intro p e s m args below meth c s₁ B hml htb hv
  obtain ⟨rfl, hP, hK, hD, hA, hN, hT⟩ := hv
  have hx := B.exec
  have hb := B.bytes
  have hr := B.returns
  have hts : ∀ w ∈ AW, w.before _ s = true := fun w h => atoms_spec (ws := Cond.code yX4_reach cX4_reach 10 (some .long) :: AW) B.pre w (List.mem_cons_of_mem _ h)
  have hown : s.vm.findClass RX4 = some m.cls := findClass_of_methodNamed B.named
  have hlocks := B.notSynchronized
  have hS : va_S A s.heap s.heap [] := va_S.rf
  have hK0 := hK.sub (tys' := []) [] rfl
  have hl := lv_entry ([.ref (ra 0), .int a, .int b]) (n := 10) (Nat.le_of_ble_eq_true rfl)
  rw [lg_entry_eq]
  generalize (lg_sl ([.ref (ra 0), .int a, .int b]) ++ List.replicate (10 - (lg_sl ([.ref (ra 0), .int a, .int b])).length) Slot.unset).toArray = ls at hl ⊢
  have hl : lv_has ls 10 [(0, .ref (ra 0)), (1, .int a), (2, .int b)] := hl
  have kn0 : ¬ (sX4_sortOf a) = (sX4_sortOf b) := h1
  refine lv_aload_n hx hb dX4_reach_0 rfl (lv_at hl 0 rfl) ?_
  refine lv_iload_n hx hb dX4_reach_1 rfl (lv_at hl 1 rfl) ?_
  refine p_V (C := RX4) (rest := []) hx hb hml hown hts (m_X4_balanceAt l D A cI cB ra σ fr a hg) q159 q161 q0 q21 q162 rfl nX4_balanceAt ⟨Nat.le_of_ble_eq_true rfl, Nat.le_of_ble_eq_true rfl⟩ hl.1 rfl rfl (Nat.le_of_ble_eq_true rfl) dX4_reach_2 ⟨Nat.zero_le _, Nat.zero_le _⟩ rPre_bl (va_recv hK hP (ci := 4) (q0 := 0) rfl rfl) (rPre_go hP hK hD hA hN hT hS) ?_
  refine lv_astore_n (lv' := [(3, .ref (ra (4 + a.toNatClampNeg))), (0, .ref (ra 0)), (1, .int a), (2, .int b)]) hx hb dX4_reach_5 rfl hl (by decide) rfl (fun ls hl => ?_)
  refine lv_aload_n hx hb dX4_reach_6 rfl (lv_at hl 1 rfl) ?_
  refine lv_iload_n hx hb dX4_reach_7 rfl (lv_at hl 3 rfl) ?_
  refine p_V (C := RX4) (rest := []) hx hb hml hown hts (m_X4_balanceAt l D A cI cB ra σ fr b hh) q159 q161 q0 q21 q162 rfl nX4_balanceAt ⟨Nat.le_of_ble_eq_true rfl, Nat.le_of_ble_eq_true rfl⟩ hl.1 rfl rfl (Nat.le_of_ble_eq_true rfl) dX4_reach_8 ⟨Nat.zero_le _, Nat.zero_le _⟩ rPre_bl (va_recv hK hP (ci := 4) (q0 := 0) rfl rfl) (rPre_go hP hK hD hA hN hT hS) ?_
  refine lv_astore (lv' := [(4, .ref (ra (4 + b.toNatClampNeg))), (3, .ref (ra (4 + a.toNatClampNeg))), (0, .ref (ra 0)), (1, .int a), (2, .int b)]) hx hb dX4_reach_11 hl (by decide) rfl (fun ls hl => ?_)
  refine lv_iload_n hx hb dX4_reach_13 rfl (lv_at hl 3 rfl) ?_
  refine p_S (rest := []) hx hb hml hown hts (m_X4_sortOf l a) q410 q411 q21 q412 nX4_sortOf ⟨Nat.le_of_ble_eq_true rfl, Nat.le_of_ble_eq_true rfl⟩ hl.1 rfl rfl (Nat.le_of_ble_eq_true rfl) dX4_reach_14 ⟨Nat.zero_le _, Nat.zero_le _⟩ blind_c (fun _ _ _ => trivial) ?_
  refine lv_iload_n hx hb dX4_reach_17 rfl (lv_at hl 4 rfl) ?_
  refine p_S (rest := [.int (sX4_sortOf a)]) hx hb hml hown hts (m_X4_sortOf l b) q410 q411 q21 q412 nX4_sortOf ⟨Nat.le_of_ble_eq_true rfl, Nat.le_of_ble_eq_true rfl⟩ hl.1 rfl rfl (Nat.le_of_ble_eq_true rfl) dX4_reach_18 ⟨Nat.zero_le _, Nat.zero_le _⟩ blind_c (fun _ _ _ => trivial) ?_
  refine c_icmp_eq (tgt := 34) hx hb dX4_reach_21 (by decide) (fun hq => absurd hq kn0) (fun _ => ?_)
  exact x_throw (cls := xIS) (text := "balances of unlike sorts") hx hb hst hml hown hts hT htb hP hS fitIS q359 q33 (by decide) (at_IS hts hT) gdIS hl.1 dX4_reach_24 dX4_reach_27 dX4_reach_28 dX4_reach_30 dX4_reach_33 ⟨Nat.le_of_ble_eq_true rfl, Nat.le_of_ble_eq_true rfl⟩ ⟨Nat.le_of_ble_eq_true rfl, Nat.le_of_ble_eq_true rfl⟩ hlocks
set_option maxHeartbeats 4000000 in
set_option maxRecDepth 100000 in
theorem x_X4_reachD (l : Launch) (D : va_G) (A : Nat → Prop) (cI cB : ClassId) (ra : Nat → Nat) (σ : St) (fr : va_W) (a : Int32) (b : Int32) (hst : l.stackTraces = false) (hg : vp_in a 16) (hh : vp_in b 16) (h1 : (sX4_sortOf a) = (sX4_sortOf b)) (h2 : (zCnt σ a.toNatClampNeg) = 0) : XM l yX4_reach cX4_reach 10 (some .long) 7 [.ref (ra 0), .int a, .int b] (rPre D A cI cB (RW cI cB ra σ fr)) xIS D A (RW cI cB ra σ fr) := by
  refine vx_ofW (cc := cX4_reach) (maxL := 10) (ret := (some .long)) (by decide) rfl ?_
  intro p e s m args below meth c s₁ B hml htb hv
  obtain ⟨rfl, hP, hK, hD, hA, hN, hT⟩ := hv
  have hx := B.exec
  have hb := B.bytes
  have hr := B.returns
  have hts : ∀ w ∈ AW, w.before _ s = true := fun w h => atoms_spec (ws := Cond.code yX4_reach cX4_reach 10 (some .long) :: AW) B.pre w (List.mem_cons_of_mem _ h)
  have hown : s.vm.findClass RX4 = some m.cls := findClass_of_methodNamed B.named
  have hlocks := B.notSynchronized
  have hS : va_S A s.heap s.heap [] := va_S.rf
  have hK0 := hK.sub (tys' := []) [] rfl
  have hl := lv_entry ([.ref (ra 0), .int a, .int b]) (n := 10) (Nat.le_of_ble_eq_true rfl)
  rw [lg_entry_eq]
  generalize (lg_sl ([.ref (ra 0), .int a, .int b]) ++ List.replicate (10 - (lg_sl ([.ref (ra 0), .int a, .int b])).length) Slot.unset).toArray = ls at hl ⊢
  have hl : lv_has ls 10 [(0, .ref (ra 0)), (1, .int a), (2, .int b)] := hl
  have kn0 : (sX4_sortOf a) = (sX4_sortOf b) := h1
  have kn1 : (zCnt σ a.toNatClampNeg) = 0 := h2
  refine lv_aload_n hx hb dX4_reach_0 rfl (lv_at hl 0 rfl) ?_
  refine lv_iload_n hx hb dX4_reach_1 rfl (lv_at hl 1 rfl) ?_
  refine p_V (C := RX4) (rest := []) hx hb hml hown hts (m_X4_balanceAt l D A cI cB ra σ fr a hg) q159 q161 q0 q21 q162 rfl nX4_balanceAt ⟨Nat.le_of_ble_eq_true rfl, Nat.le_of_ble_eq_true rfl⟩ hl.1 rfl rfl (Nat.le_of_ble_eq_true rfl) dX4_reach_2 ⟨Nat.zero_le _, Nat.zero_le _⟩ rPre_bl (va_recv hK hP (ci := 4) (q0 := 0) rfl rfl) (rPre_go hP hK hD hA hN hT hS) ?_
  refine lv_astore_n (lv' := [(3, .ref (ra (4 + a.toNatClampNeg))), (0, .ref (ra 0)), (1, .int a), (2, .int b)]) hx hb dX4_reach_5 rfl hl (by decide) rfl (fun ls hl => ?_)
  refine lv_aload_n hx hb dX4_reach_6 rfl (lv_at hl 1 rfl) ?_
  refine lv_iload_n hx hb dX4_reach_7 rfl (lv_at hl 3 rfl) ?_
  refine p_V (C := RX4) (rest := []) hx hb hml hown hts (m_X4_balanceAt l D A cI cB ra σ fr b hh) q159 q161 q0 q21 q162 rfl nX4_balanceAt ⟨Nat.le_of_ble_eq_true rfl, Nat.le_of_ble_eq_true rfl⟩ hl.1 rfl rfl (Nat.le_of_ble_eq_true rfl) dX4_reach_8 ⟨Nat.zero_le _, Nat.zero_le _⟩ rPre_bl (va_recv hK hP (ci := 4) (q0 := 0) rfl rfl) (rPre_go hP hK hD hA hN hT hS) ?_
  refine lv_astore (lv' := [(4, .ref (ra (4 + b.toNatClampNeg))), (3, .ref (ra (4 + a.toNatClampNeg))), (0, .ref (ra 0)), (1, .int a), (2, .int b)]) hx hb dX4_reach_11 hl (by decide) rfl (fun ls hl => ?_)
  refine lv_iload_n hx hb dX4_reach_13 rfl (lv_at hl 3 rfl) ?_
  refine p_S (rest := []) hx hb hml hown hts (m_X4_sortOf l a) q410 q411 q21 q412 nX4_sortOf ⟨Nat.le_of_ble_eq_true rfl, Nat.le_of_ble_eq_true rfl⟩ hl.1 rfl rfl (Nat.le_of_ble_eq_true rfl) dX4_reach_14 ⟨Nat.zero_le _, Nat.zero_le _⟩ blind_c (fun _ _ _ => trivial) ?_
  refine lv_iload_n hx hb dX4_reach_17 rfl (lv_at hl 4 rfl) ?_
  refine p_S (rest := [.int (sX4_sortOf a)]) hx hb hml hown hts (m_X4_sortOf l b) q410 q411 q21 q412 nX4_sortOf ⟨Nat.le_of_ble_eq_true rfl, Nat.le_of_ble_eq_true rfl⟩ hl.1 rfl rfl (Nat.le_of_ble_eq_true rfl) dX4_reach_18 ⟨Nat.zero_le _, Nat.zero_le _⟩ blind_c (fun _ _ _ => trivial) ?_
  refine c_icmp_eq (tgt := 34) hx hb dX4_reach_21 (by decide) (fun _ => ?_) (fun hq => absurd kn0 hq)
  refine lv_aload_n hx hb dX4_reach_34 rfl (lv_at hl 1 rfl) ?_
  refine va_get (v := .int (zCnt σ a.toNatClampNeg)) (C := RX0) (T := TX0) (N := 7) (ci := 1) hx hb hts inX0 hown hK hP (4 + a.toNatClampNeg) (rw_bal (vp_lt hg)) rfl 1 (by decide) (hts _ q101) (fun _ h => h) rfl dX4_reach_35 ?_
  refine c_if_eq (tgt := 49) hx hb dX4_reach_38 (by decide) (fun _ => ?_) (fun hq => absurd kn1 hq)
  exact x_throw (cls := xIS) (text := "a balance without a reading") hx hb hst hml hown hts hT htb hP hS fitIS q359 q33 (by decide) (at_IS hts hT) gdIS hl.1 dX4_reach_49 dX4_reach_52 dX4_reach_53 dX4_reach_55 dX4_reach_58 ⟨Nat.le_of_ble_eq_true rfl, Nat.le_of_ble_eq_true rfl⟩ ⟨Nat.le_of_ble_eq_true rfl, Nat.le_of_ble_eq_true rfl⟩ hlocks
set_option maxHeartbeats 4000000 in
set_option maxRecDepth 100000 in
theorem x_X4_reachE (l : Launch) (D : va_G) (A : Nat → Prop) (cI cB : ClassId) (ra : Nat → Nat) (σ : St) (fr : va_W) (a : Int32) (b : Int32) (hst : l.stackTraces = false) (hg : vp_in a 16) (hh : vp_in b 16) (h1 : (sX4_sortOf a) = (sX4_sortOf b)) (h2 : ¬ (zCnt σ a.toNatClampNeg) = 0) (h3 : (zCnt σ b.toNatClampNeg) = 0) : XM l yX4_reach cX4_reach 10 (some .long) 7 [.ref (ra 0), .int a, .int b] (rPre D A cI cB (RW cI cB ra σ fr)) xIS D A (RW cI cB ra σ fr) := by
  refine vx_ofW (cc := cX4_reach) (maxL := 10) (ret := (some .long)) (by decide) rfl ?_
  intro p e s m args below meth c s₁ B hml htb hv
  obtain ⟨rfl, hP, hK, hD, hA, hN, hT⟩ := hv
  have hx := B.exec
  have hb := B.bytes
  have hr := B.returns
  have hts : ∀ w ∈ AW, w.before _ s = true := fun w h => atoms_spec (ws := Cond.code yX4_reach cX4_reach 10 (some .long) :: AW) B.pre w (List.mem_cons_of_mem _ h)
  have hown : s.vm.findClass RX4 = some m.cls := findClass_of_methodNamed B.named
  have hlocks := B.notSynchronized
  have hS : va_S A s.heap s.heap [] := va_S.rf
  have hK0 := hK.sub (tys' := []) [] rfl
  have hl := lv_entry ([.ref (ra 0), .int a, .int b]) (n := 10) (Nat.le_of_ble_eq_true rfl)
  rw [lg_entry_eq]
  generalize (lg_sl ([.ref (ra 0), .int a, .int b]) ++ List.replicate (10 - (lg_sl ([.ref (ra 0), .int a, .int b])).length) Slot.unset).toArray = ls at hl ⊢
  have hl : lv_has ls 10 [(0, .ref (ra 0)), (1, .int a), (2, .int b)] := hl
  have kn0 : (sX4_sortOf a) = (sX4_sortOf b) := h1
  have kn1 : ¬ (zCnt σ a.toNatClampNeg) = 0 := h2
  have kn2 : (zCnt σ b.toNatClampNeg) = 0 := h3
  refine lv_aload_n hx hb dX4_reach_0 rfl (lv_at hl 0 rfl) ?_
  refine lv_iload_n hx hb dX4_reach_1 rfl (lv_at hl 1 rfl) ?_
  refine p_V (C := RX4) (rest := []) hx hb hml hown hts (m_X4_balanceAt l D A cI cB ra σ fr a hg) q159 q161 q0 q21 q162 rfl nX4_balanceAt ⟨Nat.le_of_ble_eq_true rfl, Nat.le_of_ble_eq_true rfl⟩ hl.1 rfl rfl (Nat.le_of_ble_eq_true rfl) dX4_reach_2 ⟨Nat.zero_le _, Nat.zero_le _⟩ rPre_bl (va_recv hK hP (ci := 4) (q0 := 0) rfl rfl) (rPre_go hP hK hD hA hN hT hS) ?_
  refine lv_astore_n (lv' := [(3, .ref (ra (4 + a.toNatClampNeg))), (0, .ref (ra 0)), (1, .int a), (2, .int b)]) hx hb dX4_reach_5 rfl hl (by decide) rfl (fun ls hl => ?_)
  refine lv_aload_n hx hb dX4_reach_6 rfl (lv_at hl 1 rfl) ?_
  refine lv_iload_n hx hb dX4_reach_7 rfl (lv_at hl 3 rfl) ?_
  refine p_V (C := RX4) (rest := []) hx hb hml hown hts (m_X4_balanceAt l D A cI cB ra σ fr b hh) q159 q161 q0 q21 q162 rfl nX4_balanceAt ⟨Nat.le_of_ble_eq_true rfl, Nat.le_of_ble_eq_true rfl⟩ hl.1 rfl rfl (Nat.le_of_ble_eq_true rfl) dX4_reach_8 ⟨Nat.zero_le _, Nat.zero_le _⟩ rPre_bl (va_recv hK hP (ci := 4) (q0 := 0) rfl rfl) (rPre_go hP hK hD hA hN hT hS) ?_
  refine lv_astore (lv' := [(4, .ref (ra (4 + b.toNatClampNeg))), (3, .ref (ra (4 + a.toNatClampNeg))), (0, .ref (ra 0)), (1, .int a), (2, .int b)]) hx hb dX4_reach_11 hl (by decide) rfl (fun ls hl => ?_)
  refine lv_iload_n hx hb dX4_reach_13 rfl (lv_at hl 3 rfl) ?_
  refine p_S (rest := []) hx hb hml hown hts (m_X4_sortOf l a) q410 q411 q21 q412 nX4_sortOf ⟨Nat.le_of_ble_eq_true rfl, Nat.le_of_ble_eq_true rfl⟩ hl.1 rfl rfl (Nat.le_of_ble_eq_true rfl) dX4_reach_14 ⟨Nat.zero_le _, Nat.zero_le _⟩ blind_c (fun _ _ _ => trivial) ?_
  refine lv_iload_n hx hb dX4_reach_17 rfl (lv_at hl 4 rfl) ?_
  refine p_S (rest := [.int (sX4_sortOf a)]) hx hb hml hown hts (m_X4_sortOf l b) q410 q411 q21 q412 nX4_sortOf ⟨Nat.le_of_ble_eq_true rfl, Nat.le_of_ble_eq_true rfl⟩ hl.1 rfl rfl (Nat.le_of_ble_eq_true rfl) dX4_reach_18 ⟨Nat.zero_le _, Nat.zero_le _⟩ blind_c (fun _ _ _ => trivial) ?_
  refine c_icmp_eq (tgt := 34) hx hb dX4_reach_21 (by decide) (fun _ => ?_) (fun hq => absurd kn0 hq)
  refine lv_aload_n hx hb dX4_reach_34 rfl (lv_at hl 1 rfl) ?_
  refine va_get (v := .int (zCnt σ a.toNatClampNeg)) (C := RX0) (T := TX0) (N := 7) (ci := 1) hx hb hts inX0 hown hK hP (4 + a.toNatClampNeg) (rw_bal (vp_lt hg)) rfl 1 (by decide) (hts _ q101) (fun _ h => h) rfl dX4_reach_35 ?_
  refine c_if_eq (tgt := 49) hx hb dX4_reach_38 (by decide) (fun hq => absurd hq kn1) (fun _ => ?_)
  refine lv_aload hx hb dX4_reach_41 (lv_at hl 0 rfl) ?_
  refine va_get (v := .int (zCnt σ b.toNatClampNeg)) (C := RX0) (T := TX0) (N := 7) (ci := 1) hx hb hts inX0 hown hK hP (4 + b.toNatClampNeg) (rw_bal (vp_lt hh)) rfl 1 (by decide) (hts _ q101) (fun _ h => h) rfl dX4_reach_43 ?_
  refine c_if_ne (tgt := 59) hx hb dX4_reach_46 (by decide) (fun hq => absurd kn2 hq) (fun _ => ?_)
  exact x_throw (cls := xIS) (text := "a balance without a reading") hx hb hst hml hown hts hT htb hP hS fitIS q359 q33 (by decide) (at_IS hts hT) gdIS hl.1 dX4_reach_49 dX4_reach_52 dX4_reach_53 dX4_reach_55 dX4_reach_58 ⟨Nat.le_of_ble_eq_true rfl, Nat.le_of_ble_eq_true rfl⟩ ⟨Nat.le_of_ble_eq_true rfl, Nat.le_of_ble_eq_true rfl⟩ hlocks
def sX4_orderDone (σ : St) (K : Nat) (a : Int32) (k : Int32) (v : Int64) : Int64 := if a = (0 : Int32) then (so_size K v) else if a = (1 : Int32) then (so_down K v) else if a = (2 : Int32) then (so_up K v) else if a = (3 : Int32) then (so_near K v) else if a = (4 : Int32) then (so_sign K v) else if a = (5 : Int32) then (so_like K v (zNow σ k.toNatClampNeg)) else if a = (6 : Int32) then (so_greater K v (zNow σ k.toNatClampNeg)) else if a = (7 : Int32) then (so_lesser K v (zNow σ k.toNatClampNeg)) else if a = (8 : Int32) then (so_step K v (k - (10 : Int32))) else if a = (9 : Int32) then (so_meet K v (zNow σ k.toNatClampNeg)) else if a = (10 : Int32) then (so_turn K v) else if a = (11 : Int32) then (so_greater K (zLst σ k.toNatClampNeg) (so_lesser K v (zGst σ k.toNatClampNeg))) else (so_part K v)
theorem nX4_orderDone : yX4_orderDone.cls ≠ "java/lang/invoke/MethodHandle" ∧ yX4_orderDone.cls ≠ "java/lang/invoke/VarHandle" ∧ (parseMethodDescriptor yX4_orderDone.desc).map (fun d => d.parameters.length) = some 4 := by decide +kernel
set_option maxHeartbeats 4000000 in
set_option maxRecDepth 100000 in
theorem m_X4_orderDone (l : Launch) (D : va_G) (A : Nat → Prop) (cI cB : ClassId) (ra : Nat → Nat) (σ : St) (fr : va_W) (K : Nat) (a : Int32) (k : Int32) (v : Int64) (hK4 : K < 4) (hk5 : a = (5 : Int32) → vp_in k 16) (hk6 : a = (6 : Int32) → vp_in k 16) (hk7 : a = (7 : Int32) → vp_in k 16) (hk9 : a = (9 : Int32) → vp_in k 16) (hk11 : a = (11 : Int32) → vp_in k 16) : PM l yX4_orderDone cX4_orderDone 6 (some .long) 6 [.ref (ra 0), .ref (ra (20 + K)), .int a, .int k, .long v] (rPre D A cI cB (RW cI cB ra σ fr)) (.long (sX4_orderDone σ K a k v)) := by
  refine Met.ofW (cc := cX4_orderDone) (maxL := 6) (ret := (some .long)) (by decide) rfl ?_
  intro p e s m args below meth c s₁ B hml hv
  obtain ⟨rfl, hP, hK, hD, hA, hN, hT⟩ := hv
  have hx := B.exec
  have hb := B.bytes
  have hr := B.returns
  have hts : ∀ w ∈ AW, w.before _ s = true := fun w h => atoms_spec (ws := Cond.code yX4_orderDone cX4_orderDone 6 (some .long) :: AW) B.pre w (List.mem_cons_of_mem _ h)
  have hown : s.vm.findClass RX4 = some m.cls := findClass_of_methodNamed B.named
  have hlocks := B.notSynchronized
  have hS : va_S A s.heap s.heap [] := va_S.rf
  have hK0 := hK.sub (tys' := []) [] rfl
  have hl := lv_entry ([.ref (ra 0), .ref (ra (20 + K)), .int a, .int k, .long v]) (n := 6) (Nat.le_of_ble_eq_true rfl)
  rw [lg_entry_eq]
  generalize (lg_sl ([.ref (ra 0), .ref (ra (20 + K)), .int a, .int k, .long v]) ++ List.replicate (6 - (lg_sl ([.ref (ra 0), .ref (ra (20 + K)), .int a, .int k, .long v])).length) Slot.unset).toArray = ls at hl ⊢
  have hl : lv_has ls 6 [(0, .ref (ra 0)), (1, .ref (ra (20 + K))), (2, .int a), (3, .int k), (4, .long v)] := hl
  refine lv_iload_n hx hb dX4_orderDone_0 rfl (lv_at hl 2 rfl) ?_
  by_cases h1 : a = (0 : Int32)
  · refine lv_tableIn (off := 63) (tgt := 64) hx hb dX4_orderDone_1 (by rw [h1]; decide) (by rw [h1]; decide) (by rw [h1]; rfl) (by decide) ?_
    refine lv_aload_n hx hb dX4_orderDone_64 rfl (lv_at hl 1 rfl) ?_
    refine lv_lload hx hb dX4_orderDone_65 (lv_at hl 4 rfl) ?_
    refine u_size (k := K) (rest := []) hx hb hml hown hts hA hK0 (hK4) (rw_soP hP (hK4)) q430 ⟨Nat.le_of_ble_eq_true rfl, Nat.le_of_ble_eq_true rfl⟩ ⟨Nat.zero_le _, Nat.zero_le _⟩ hl.1 (Nat.le_of_ble_eq_true rfl) dX4_orderDone_67 ?_
    exact W.lret hx hb hr (fun t ht hW => pq_l (by rw [sX4_orderDone, if_pos h1]) ht) nil_free dX4_orderDone_70
  by_cases h2 : a = (1 : Int32)
  · refine lv_tableIn (off := 70) (tgt := 71) hx hb dX4_orderDone_1 (by rw [h2]; decide) (by rw [h2]; decide) (by rw [h2]; rfl) (by decide) ?_
    refine lv_aload_n hx hb dX4_orderDone_71 rfl (lv_at hl 1 rfl) ?_
    refine lv_lload hx hb dX4_orderDone_72 (lv_at hl 4 rfl) ?_
    refine u_down (k := K) (rest := []) hx hb hml hown hts hA hK0 (hK4) (rw_soP hP (hK4)) q431 ⟨Nat.le_of_ble_eq_true rfl, Nat.le_of_ble_eq_true rfl⟩ ⟨Nat.zero_le _, Nat.zero_le _⟩ hl.1 (Nat.le_of_ble_eq_true rfl) dX4_orderDone_74 ?_
    exact W.lret hx hb hr (fun t ht hW => pq_l (by rw [sX4_orderDone, if_neg h1, if_pos h2]) ht) nil_free dX4_orderDone_77
  by_cases h3 : a = (2 : Int32)
  · refine lv_tableIn (off := 77) (tgt := 78) hx hb dX4_orderDone_1 (by rw [h3]; decide) (by rw [h3]; decide) (by rw [h3]; rfl) (by decide) ?_
    refine lv_aload_n hx hb dX4_orderDone_78 rfl (lv_at hl 1 rfl) ?_
    refine lv_lload hx hb dX4_orderDone_79 (lv_at hl 4 rfl) ?_
    refine u_up (k := K) (rest := []) hx hb hml hown hts hA hK0 (hK4) (rw_soP hP (hK4)) q452 ⟨Nat.le_of_ble_eq_true rfl, Nat.le_of_ble_eq_true rfl⟩ ⟨Nat.zero_le _, Nat.zero_le _⟩ hl.1 (Nat.le_of_ble_eq_true rfl) dX4_orderDone_81 ?_
    exact W.lret hx hb hr (fun t ht hW => pq_l (by rw [sX4_orderDone, if_neg h1, if_neg h2, if_pos h3]) ht) nil_free dX4_orderDone_84
  by_cases h4 : a = (3 : Int32)
  · refine lv_tableIn (off := 84) (tgt := 85) hx hb dX4_orderDone_1 (by rw [h4]; decide) (by rw [h4]; decide) (by rw [h4]; rfl) (by decide) ?_
    refine lv_aload_n hx hb dX4_orderDone_85 rfl (lv_at hl 1 rfl) ?_
    refine lv_lload hx hb dX4_orderDone_86 (lv_at hl 4 rfl) ?_
    refine u_near (k := K) (rest := []) hx hb hml hown hts hA hK0 (hK4) (rw_soP hP (hK4)) q461 ⟨Nat.le_of_ble_eq_true rfl, Nat.le_of_ble_eq_true rfl⟩ ⟨Nat.zero_le _, Nat.zero_le _⟩ hl.1 (Nat.le_of_ble_eq_true rfl) dX4_orderDone_88 ?_
    exact W.lret hx hb hr (fun t ht hW => pq_l (by rw [sX4_orderDone, if_neg h1, if_neg h2, if_neg h3, if_pos h4]) ht) nil_free dX4_orderDone_91
  by_cases h5 : a = (4 : Int32)
  · refine lv_tableIn (off := 91) (tgt := 92) hx hb dX4_orderDone_1 (by rw [h5]; decide) (by rw [h5]; decide) (by rw [h5]; rfl) (by decide) ?_
    refine lv_aload_n hx hb dX4_orderDone_92 rfl (lv_at hl 1 rfl) ?_
    refine lv_lload hx hb dX4_orderDone_93 (lv_at hl 4 rfl) ?_
    refine u_sign (k := K) (rest := []) hx hb hml hown hts hA hK0 (hK4) (rw_soP hP (hK4)) q474 ⟨Nat.le_of_ble_eq_true rfl, Nat.le_of_ble_eq_true rfl⟩ ⟨Nat.zero_le _, Nat.zero_le _⟩ hl.1 (Nat.le_of_ble_eq_true rfl) dX4_orderDone_95 ?_
    exact W.lret hx hb hr (fun t ht hW => pq_l (by rw [sX4_orderDone, if_neg h1, if_neg h2, if_neg h3, if_neg h4, if_pos h5]) ht) nil_free dX4_orderDone_98
  by_cases h6 : a = (5 : Int32)
  · refine lv_tableIn (off := 98) (tgt := 99) hx hb dX4_orderDone_1 (by rw [h6]; decide) (by rw [h6]; decide) (by rw [h6]; rfl) (by decide) ?_
    refine lv_aload_n hx hb dX4_orderDone_99 rfl (lv_at hl 1 rfl) ?_
    refine lv_lload hx hb dX4_orderDone_100 (lv_at hl 4 rfl) ?_
    refine lv_aload_n hx hb dX4_orderDone_102 rfl (lv_at hl 0 rfl) ?_
    refine va_get (v := .ref (ra 1)) (C := RX4) (T := TX4) (N := 5) (ci := 4) hx hb hts inX4 hown hK hP 0 rfl rfl 0 (by decide) (hts _ q127) (fun _ h => h) rfl dX4_orderDone_103 ?_
    refine lv_iload_n hx hb dX4_orderDone_106 rfl (lv_at hl 3 rfl) ?_
    refine va_aldq hx hb hK hP 1 1 rfl rfl (hk5 (by assumption)) dX4_orderDone_107 ?_
    refine p_top (w := .ref (ra (4 + k.toNatClampNeg))) rfl ?_
    refine va_get (v := .long (zNow σ k.toNatClampNeg)) (C := RX0) (T := TX0) (N := 7) (ci := 1) hx hb hts inX0 hown hK hP (4 + k.toNatClampNeg) (rw_bal (vp_lt (by first | exact hk5 (by assumption) | exact hk6 (by assumption) | exact hk7 (by assumption) | exact hk9 (by assumption) | exact hk11 (by assumption)))) rfl 2 (by decide) (hts _ q103) (fun _ h => h) rfl dX4_orderDone_108 ?_
    refine u_like (k := K) (rest := []) hx hb hml hown hts hA hK0 (hK4) (rw_soP hP (hK4)) q475 ⟨Nat.le_of_ble_eq_true rfl, Nat.le_of_ble_eq_true rfl⟩ ⟨Nat.zero_le _, Nat.zero_le _⟩ hl.1 (Nat.le_of_ble_eq_true rfl) dX4_orderDone_111 ?_
    exact W.lret hx hb hr (fun t ht hW => pq_l (by rw [sX4_orderDone, if_neg h1, if_neg h2, if_neg h3, if_neg h4, if_neg h5, if_pos h6]) ht) nil_free dX4_orderDone_114
  by_cases h7 : a = (6 : Int32)
  · refine lv_tableIn (off := 114) (tgt := 115) hx hb dX4_orderDone_1 (by rw [h7]; decide) (by rw [h7]; decide) (by rw [h7]; rfl) (by decide) ?_
    refine lv_aload_n hx hb dX4_orderDone_115 rfl (lv_at hl 1 rfl) ?_
    refine lv_lload hx hb dX4_orderDone_116 (lv_at hl 4 rfl) ?_
    refine lv_aload_n hx hb dX4_orderDone_118 rfl (lv_at hl 0 rfl) ?_
    refine va_get (v := .ref (ra 1)) (C := RX4) (T := TX4) (N := 5) (ci := 4) hx hb hts inX4 hown hK hP 0 rfl rfl 0 (by decide) (hts _ q127) (fun _ h => h) rfl dX4_orderDone_119 ?_
    refine lv_iload_n hx hb dX4_orderDone_122 rfl (lv_at hl 3 rfl) ?_
    refine va_aldq hx hb hK hP 1 1 rfl rfl (hk6 (by assumption)) dX4_orderDone_123 ?_
    refine p_top (w := .ref (ra (4 + k.toNatClampNeg))) rfl ?_
    refine va_get (v := .long (zNow σ k.toNatClampNeg)) (C := RX0) (T := TX0) (N := 7) (ci := 1) hx hb hts inX0 hown hK hP (4 + k.toNatClampNeg) (rw_bal (vp_lt (by first | exact hk5 (by assumption) | exact hk6 (by assumption) | exact hk7 (by assumption) | exact hk9 (by assumption) | exact hk11 (by assumption)))) rfl 2 (by decide) (hts _ q103) (fun _ h => h) rfl dX4_orderDone_124 ?_
    refine u_greater (k := K) (rest := []) hx hb hml hown hts hA hK0 (hK4) (rw_soP hP (hK4)) q485 ⟨Nat.le_of_ble_eq_true rfl, Nat.le_of_ble_eq_true rfl⟩ ⟨Nat.zero_le _, Nat.zero_le _⟩ hl.1 (Nat.le_of_ble_eq_true rfl) dX4_orderDone_127 ?_
    exact W.lret hx hb hr (fun t ht hW => pq_l (by rw [sX4_orderDone, if_neg h1, if_neg h2, if_neg h3, if_neg h4, if_neg h5, if_neg h6, if_pos h7]) ht) nil_free dX4_orderDone_130
  by_cases h8 : a = (7 : Int32)
  · refine lv_tableIn (off := 130) (tgt := 131) hx hb dX4_orderDone_1 (by rw [h8]; decide) (by rw [h8]; decide) (by rw [h8]; rfl) (by decide) ?_
    refine lv_aload_n hx hb dX4_orderDone_131 rfl (lv_at hl 1 rfl) ?_
    refine lv_lload hx hb dX4_orderDone_132 (lv_at hl 4 rfl) ?_
    refine lv_aload_n hx hb dX4_orderDone_134 rfl (lv_at hl 0 rfl) ?_
    refine va_get (v := .ref (ra 1)) (C := RX4) (T := TX4) (N := 5) (ci := 4) hx hb hts inX4 hown hK hP 0 rfl rfl 0 (by decide) (hts _ q127) (fun _ h => h) rfl dX4_orderDone_135 ?_
    refine lv_iload_n hx hb dX4_orderDone_138 rfl (lv_at hl 3 rfl) ?_
    refine va_aldq hx hb hK hP 1 1 rfl rfl (hk7 (by assumption)) dX4_orderDone_139 ?_
    refine p_top (w := .ref (ra (4 + k.toNatClampNeg))) rfl ?_
    refine va_get (v := .long (zNow σ k.toNatClampNeg)) (C := RX0) (T := TX0) (N := 7) (ci := 1) hx hb hts inX0 hown hK hP (4 + k.toNatClampNeg) (rw_bal (vp_lt (by first | exact hk5 (by assumption) | exact hk6 (by assumption) | exact hk7 (by assumption) | exact hk9 (by assumption) | exact hk11 (by assumption)))) rfl 2 (by decide) (hts _ q103) (fun _ h => h) rfl dX4_orderDone_140 ?_
    refine u_lesser (k := K) (rest := []) hx hb hml hown hts hA hK0 (hK4) (rw_soP hP (hK4)) q486 ⟨Nat.le_of_ble_eq_true rfl, Nat.le_of_ble_eq_true rfl⟩ ⟨Nat.zero_le _, Nat.zero_le _⟩ hl.1 (Nat.le_of_ble_eq_true rfl) dX4_orderDone_143 ?_
    exact W.lret hx hb hr (fun t ht hW => pq_l (by rw [sX4_orderDone, if_neg h1, if_neg h2, if_neg h3, if_neg h4, if_neg h5, if_neg h6, if_neg h7, if_pos h8]) ht) nil_free dX4_orderDone_146
  by_cases h9 : a = (8 : Int32)
  · refine lv_tableIn (off := 146) (tgt := 147) hx hb dX4_orderDone_1 (by rw [h9]; decide) (by rw [h9]; decide) (by rw [h9]; rfl) (by decide) ?_
    refine lv_aload_n hx hb dX4_orderDone_147 rfl (lv_at hl 1 rfl) ?_
    refine lv_lload hx hb dX4_orderDone_148 (lv_at hl 4 rfl) ?_
    refine lv_iload_n hx hb dX4_orderDone_150 rfl (lv_at hl 3 rfl) ?_
    refine lv_bipush (v := 10) hx hb dX4_orderDone_151 (by decide) ?_
    refine lv_isub hx hb dX4_orderDone_153 ?_
    refine u_step (k := K) (rest := []) hx hb hml hown hts hA hK0 (hK4) (rw_soP hP (hK4)) q487 ⟨Nat.le_of_ble_eq_true rfl, Nat.le_of_ble_eq_true rfl⟩ ⟨Nat.zero_le _, Nat.zero_le _⟩ hl.1 (Nat.le_of_ble_eq_true rfl) dX4_orderDone_154 ?_
    exact W.lret hx hb hr (fun t ht hW => pq_l (by rw [sX4_orderDone, if_neg h1, if_neg h2, if_neg h3, if_neg h4, if_neg h5, if_neg h6, if_neg h7, if_neg h8, if_pos h9]) ht) nil_free dX4_orderDone_157
  by_cases h10 : a = (9 : Int32)
  · refine lv_tableIn (off := 157) (tgt := 158) hx hb dX4_orderDone_1 (by rw [h10]; decide) (by rw [h10]; decide) (by rw [h10]; rfl) (by decide) ?_
    refine lv_aload_n hx hb dX4_orderDone_158 rfl (lv_at hl 1 rfl) ?_
    refine lv_lload hx hb dX4_orderDone_159 (lv_at hl 4 rfl) ?_
    refine lv_aload_n hx hb dX4_orderDone_161 rfl (lv_at hl 0 rfl) ?_
    refine va_get (v := .ref (ra 1)) (C := RX4) (T := TX4) (N := 5) (ci := 4) hx hb hts inX4 hown hK hP 0 rfl rfl 0 (by decide) (hts _ q127) (fun _ h => h) rfl dX4_orderDone_162 ?_
    refine lv_iload_n hx hb dX4_orderDone_165 rfl (lv_at hl 3 rfl) ?_
    refine va_aldq hx hb hK hP 1 1 rfl rfl (hk9 (by assumption)) dX4_orderDone_166 ?_
    refine p_top (w := .ref (ra (4 + k.toNatClampNeg))) rfl ?_
    refine va_get (v := .long (zNow σ k.toNatClampNeg)) (C := RX0) (T := TX0) (N := 7) (ci := 1) hx hb hts inX0 hown hK hP (4 + k.toNatClampNeg) (rw_bal (vp_lt (by first | exact hk5 (by assumption) | exact hk6 (by assumption) | exact hk7 (by assumption) | exact hk9 (by assumption) | exact hk11 (by assumption)))) rfl 2 (by decide) (hts _ q103) (fun _ h => h) rfl dX4_orderDone_167 ?_
    refine u_meet (k := K) (rest := []) hx hb hml hown hts hA hK0 (hK4) (rw_soP hP (hK4)) q501 ⟨Nat.le_of_ble_eq_true rfl, Nat.le_of_ble_eq_true rfl⟩ ⟨Nat.zero_le _, Nat.zero_le _⟩ hl.1 (Nat.le_of_ble_eq_true rfl) dX4_orderDone_170 ?_
    exact W.lret hx hb hr (fun t ht hW => pq_l (by rw [sX4_orderDone, if_neg h1, if_neg h2, if_neg h3, if_neg h4, if_neg h5, if_neg h6, if_neg h7, if_neg h8, if_neg h9, if_pos h10]) ht) nil_free dX4_orderDone_173
  by_cases h11 : a = (10 : Int32)
  · refine lv_tableIn (off := 173) (tgt := 174) hx hb dX4_orderDone_1 (by rw [h11]; decide) (by rw [h11]; decide) (by rw [h11]; rfl) (by decide) ?_
    refine lv_aload_n hx hb dX4_orderDone_174 rfl (lv_at hl 1 rfl) ?_
    refine lv_lload hx hb dX4_orderDone_175 (lv_at hl 4 rfl) ?_
    refine u_turn (k := K) (rest := []) hx hb hml hown hts hA hK0 (hK4) (rw_soP hP (hK4)) q510 ⟨Nat.le_of_ble_eq_true rfl, Nat.le_of_ble_eq_true rfl⟩ ⟨Nat.zero_le _, Nat.zero_le _⟩ hl.1 (Nat.le_of_ble_eq_true rfl) dX4_orderDone_177 ?_
    exact W.lret hx hb hr (fun t ht hW => pq_l (by rw [sX4_orderDone, if_neg h1, if_neg h2, if_neg h3, if_neg h4, if_neg h5, if_neg h6, if_neg h7, if_neg h8, if_neg h9, if_neg h10, if_pos h11]) ht) nil_free dX4_orderDone_180
  by_cases h12 : a = (11 : Int32)
  · refine lv_tableIn (off := 180) (tgt := 181) hx hb dX4_orderDone_1 (by rw [h12]; decide) (by rw [h12]; decide) (by rw [h12]; rfl) (by decide) ?_
    refine lv_aload_n hx hb dX4_orderDone_181 rfl (lv_at hl 1 rfl) ?_
    refine lv_aload_n hx hb dX4_orderDone_182 rfl (lv_at hl 0 rfl) ?_
    refine va_get (v := .ref (ra 1)) (C := RX4) (T := TX4) (N := 5) (ci := 4) hx hb hts inX4 hown hK hP 0 rfl rfl 0 (by decide) (hts _ q127) (fun _ h => h) rfl dX4_orderDone_183 ?_
    refine lv_iload_n hx hb dX4_orderDone_186 rfl (lv_at hl 3 rfl) ?_
    refine va_aldq hx hb hK hP 1 1 rfl rfl (hk11 (by assumption)) dX4_orderDone_187 ?_
    refine p_top (w := .ref (ra (4 + k.toNatClampNeg))) rfl ?_
    refine va_get (v := .long (zLst σ k.toNatClampNeg)) (C := RX0) (T := TX0) (N := 7) (ci := 1) hx hb hts inX0 hown hK hP (4 + k.toNatClampNeg) (rw_bal (vp_lt (by first | exact hk5 (by assumption) | exact hk6 (by assumption) | exact hk7 (by assumption) | exact hk9 (by assumption) | exact hk11 (by assumption)))) rfl 3 (by decide) (hts _ q105) (fun _ h => h) rfl dX4_orderDone_188 ?_
    refine lv_aload_n hx hb dX4_orderDone_191 rfl (lv_at hl 1 rfl) ?_
    refine lv_lload hx hb dX4_orderDone_192 (lv_at hl 4 rfl) ?_
    refine lv_aload_n hx hb dX4_orderDone_194 rfl (lv_at hl 0 rfl) ?_
    refine va_get (v := .ref (ra 1)) (C := RX4) (T := TX4) (N := 5) (ci := 4) hx hb hts inX4 hown hK hP 0 rfl rfl 0 (by decide) (hts _ q127) (fun _ h => h) rfl dX4_orderDone_195 ?_
    refine lv_iload_n hx hb dX4_orderDone_198 rfl (lv_at hl 3 rfl) ?_
    refine va_aldq hx hb hK hP 1 1 rfl rfl (hk11 (by assumption)) dX4_orderDone_199 ?_
    refine p_top (w := .ref (ra (4 + k.toNatClampNeg))) rfl ?_
    refine va_get (v := .long (zGst σ k.toNatClampNeg)) (C := RX0) (T := TX0) (N := 7) (ci := 1) hx hb hts inX0 hown hK hP (4 + k.toNatClampNeg) (rw_bal (vp_lt (by first | exact hk5 (by assumption) | exact hk6 (by assumption) | exact hk7 (by assumption) | exact hk9 (by assumption) | exact hk11 (by assumption)))) rfl 4 (by decide) (hts _ q107) (fun _ h => h) rfl dX4_orderDone_200 ?_
    refine u_lesser (k := K) (rest := [.long (zLst σ k.toNatClampNeg), .ref (ra (20 + K))]) hx hb hml hown hts hA hK0 (hK4) (rw_soP hP (hK4)) q486 ⟨Nat.le_of_ble_eq_true rfl, Nat.le_of_ble_eq_true rfl⟩ ⟨Nat.zero_le _, Nat.zero_le _⟩ hl.1 (Nat.le_of_ble_eq_true rfl) dX4_orderDone_203 ?_
    refine u_greater (k := K) (rest := []) hx hb hml hown hts hA hK0 (hK4) (rw_soP hP (hK4)) q485 ⟨Nat.le_of_ble_eq_true rfl, Nat.le_of_ble_eq_true rfl⟩ ⟨Nat.zero_le _, Nat.zero_le _⟩ hl.1 (Nat.le_of_ble_eq_true rfl) dX4_orderDone_206 ?_
    exact W.lret hx hb hr (fun t ht hW => pq_l (by rw [sX4_orderDone, if_neg h1, if_neg h2, if_neg h3, if_neg h4, if_neg h5, if_neg h6, if_neg h7, if_neg h8, if_neg h9, if_neg h10, if_neg h11, if_pos h12]) ht) nil_free dX4_orderDone_209
  have h1N := lv_neT (a := 0) h1 (by decide)
  have h2N := lv_neT (a := 1) h2 (by decide)
  have h3N := lv_neT (a := 2) h3 (by decide)
  have h4N := lv_neT (a := 3) h4 (by decide)
  have h5N := lv_neT (a := 4) h5 (by decide)
  have h6N := lv_neT (a := 5) h6 (by decide)
  have h7N := lv_neT (a := 6) h7 (by decide)
  have h8N := lv_neT (a := 7) h8 (by decide)
  have h9N := lv_neT (a := 8) h9 (by decide)
  have h10N := lv_neT (a := 9) h10 (by decide)
  have h11N := lv_neT (a := 10) h11 (by decide)
  have h12N := lv_neT (a := 11) h12 (by decide)
  refine lv_tableOut (tgt := 210) hx hb dX4_orderDone_1 (by omega) (by decide) ?_
  refine lv_aload_n hx hb dX4_orderDone_210 rfl (lv_at hl 1 rfl) ?_
  refine lv_lload hx hb dX4_orderDone_211 (lv_at hl 4 rfl) ?_
  refine u_part (k := K) (rest := []) hx hb hml hown hts hA hK0 (hK4) (rw_soP hP (hK4)) q515 ⟨Nat.le_of_ble_eq_true rfl, Nat.le_of_ble_eq_true rfl⟩ ⟨Nat.zero_le _, Nat.zero_le _⟩ hl.1 (Nat.le_of_ble_eq_true rfl) dX4_orderDone_213 ?_
  exact W.lret hx hb hr (fun t ht hW => pq_l (by rw [sX4_orderDone, if_neg h1, if_neg h2, if_neg h3, if_neg h4, if_neg h5, if_neg h6, if_neg h7, if_neg h8, if_neg h9, if_neg h10, if_neg h11, if_neg h12]) ht) nil_free dX4_orderDone_216
theorem nX4_refuseUnfit : yX4_refuseUnfit.cls ≠ "java/lang/invoke/MethodHandle" ∧ yX4_refuseUnfit.cls ≠ "java/lang/invoke/VarHandle" ∧ (parseMethodDescriptor yX4_refuseUnfit.desc).map (fun d => d.parameters.length) = some 3 := by decide +kernel
set_option maxHeartbeats 4000000 in
set_option maxRecDepth 100000 in
theorem m_X4_refuseUnfit (l : Launch) (D : va_G) (A : Nat → Prop) (cI cB : ClassId) (ra : Nat → Nat) (σ : St) (fr : va_W) (i : Int32) (g : Int32) (v : Int64) (hi : vp_in i 12) (hk : vp_in (zOps σ i.toNatClampNeg) 16) (h1 : (sX4_sortOf (zOps σ i.toNatClampNeg)) = (sX4_sortOf g)) (h2 : ¬ (zCnt σ (zOps σ i.toNatClampNeg).toNatClampNeg) = 0) (h3 : (zCds σ i.toNatClampNeg) = (9 : Int32) → ¬ (so_canMeet ((zOps σ i.toNatClampNeg).toNatClampNeg / 4) v (zNow σ (zOps σ i.toNatClampNeg).toNatClampNeg)) = 0) : PMv l yX4_refuseUnfit cX4_refuseUnfit 7 none 6 [.ref (ra 0), .int i, .int g, .long v] (rPre D A cI cB (RW cI cB ra σ fr)) := by
  refine Met.ofW (cc := cX4_refuseUnfit) (maxL := 7) (ret := none) (by decide) rfl ?_
  intro p e s m args below meth c s₁ B hml hv
  obtain ⟨rfl, hP, hK, hD, hA, hN, hT⟩ := hv
  have hx := B.exec
  have hb := B.bytes
  have hr := B.returns
  have hts : ∀ w ∈ AW, w.before _ s = true := fun w h => atoms_spec (ws := Cond.code yX4_refuseUnfit cX4_refuseUnfit 7 none :: AW) B.pre w (List.mem_cons_of_mem _ h)
  have hown : s.vm.findClass RX4 = some m.cls := findClass_of_methodNamed B.named
  have hlocks := B.notSynchronized
  have hS : va_S A s.heap s.heap [] := va_S.rf
  have hK0 := hK.sub (tys' := []) [] rfl
  have hl := lv_entry ([.ref (ra 0), .int i, .int g, .long v]) (n := 7) (Nat.le_of_ble_eq_true rfl)
  rw [lg_entry_eq]
  generalize (lg_sl ([.ref (ra 0), .int i, .int g, .long v]) ++ List.replicate (7 - (lg_sl ([.ref (ra 0), .int i, .int g, .long v])).length) Slot.unset).toArray = ls at hl ⊢
  have hl : lv_has ls 7 [(0, .ref (ra 0)), (1, .int i), (2, .int g), (3, .long v)] := hl
  have kn0 : (sX4_sortOf (zOps σ i.toNatClampNeg)) = (sX4_sortOf g) := h1
  have kn1 : ¬ (zCnt σ (zOps σ i.toNatClampNeg).toNatClampNeg) = 0 := h2
  refine lv_aload_n hx hb dX4_refuseUnfit_0 rfl (lv_at hl 0 rfl) ?_
  refine va_get (v := .ref (ra 3)) (C := RX4) (T := TX4) (N := 5) (ci := 4) hx hb hts inX4 hown hK hP 0 rfl rfl 2 (by decide) (hts _ q129) (fun _ h => h) rfl dX4_refuseUnfit_1 ?_
  refine lv_iload_n hx hb dX4_refuseUnfit_4 rfl (lv_at hl 1 rfl) ?_
  refine va_iald (f := (zOps σ)) hx hb hK hP 3 0 rfl rfl (hi) dX4_refuseUnfit_5 ?_
  refine lv_istore (lv' := [(5, .int (zOps σ i.toNatClampNeg)), (0, .ref (ra 0)), (1, .int i), (2, .int g), (3, .long v)]) hx hb dX4_refuseUnfit_6 hl (by decide) rfl (fun ls hl => ?_)
  refine lv_aload_n hx hb dX4_refuseUnfit_8 rfl (lv_at hl 1 rfl) ?_
  refine va_get (v := .ref (ra 1)) (C := RX4) (T := TX4) (N := 5) (ci := 4) hx hb hts inX4 hown hK hP 0 rfl rfl 0 (by decide) (hts _ q127) (fun _ h => h) rfl dX4_refuseUnfit_9 ?_
  refine lv_iload hx hb dX4_refuseUnfit_12 (lv_at hl 0 rfl) ?_
  refine va_aldq hx hb hK hP 1 1 rfl rfl (hk) dX4_refuseUnfit_14 ?_
  refine p_top (w := .ref (ra (4 + (zOps σ i.toNatClampNeg).toNatClampNeg))) rfl ?_
  refine lv_astore (lv' := [(6, .ref (ra (4 + (zOps σ i.toNatClampNeg).toNatClampNeg))), (5, .int (zOps σ i.toNatClampNeg)), (0, .ref (ra 0)), (1, .int i), (2, .int g), (3, .long v)]) hx hb dX4_refuseUnfit_15 hl (by decide) rfl (fun ls hl => ?_)
  refine lv_iload hx hb dX4_refuseUnfit_17 (lv_at hl 1 rfl) ?_
  refine p_S (rest := []) hx hb hml hown hts (m_X4_sortOf l (zOps σ i.toNatClampNeg)) q410 q411 q21 q412 nX4_sortOf ⟨Nat.le_of_ble_eq_true rfl, Nat.le_of_ble_eq_true rfl⟩ hl.1 rfl rfl (Nat.le_of_ble_eq_true rfl) dX4_refuseUnfit_19 ⟨Nat.zero_le _, Nat.zero_le _⟩ blind_c (fun _ _ _ => trivial) ?_
  refine lv_iload_n hx hb dX4_refuseUnfit_22 rfl (lv_at hl 4 rfl) ?_
  refine p_S (rest := [.int (sX4_sortOf (zOps σ i.toNatClampNeg))]) hx hb hml hown hts (m_X4_sortOf l g) q410 q411 q21 q412 nX4_sortOf ⟨Nat.le_of_ble_eq_true rfl, Nat.le_of_ble_eq_true rfl⟩ hl.1 rfl rfl (Nat.le_of_ble_eq_true rfl) dX4_refuseUnfit_23 ⟨Nat.zero_le _, Nat.zero_le _⟩ blind_c (fun _ _ _ => trivial) ?_
  refine c_icmp_ne (tgt := 37) hx hb dX4_refuseUnfit_26 (by decide) (fun hq => absurd kn0 hq) (fun _ => ?_)
  refine lv_aload hx hb dX4_refuseUnfit_29 (lv_at hl 0 rfl) ?_
  refine va_get (v := .int (zCnt σ (zOps σ i.toNatClampNeg).toNatClampNeg)) (C := RX0) (T := TX0) (N := 7) (ci := 1) hx hb hts inX0 hown hK hP (4 + (zOps σ i.toNatClampNeg).toNatClampNeg) (rw_bal (vp_lt hk)) rfl 1 (by decide) (hts _ q101) (fun _ h => h) rfl dX4_refuseUnfit_31 ?_
  refine c_if_ne (tgt := 52) hx hb dX4_refuseUnfit_34 (by decide) (fun _ => ?_) (fun hq => absurd hq kn1)
  refine lv_aload_n hx hb dX4_refuseUnfit_52 rfl (lv_at hl 2 rfl) ?_
  refine va_get (v := .ref (ra 2)) (C := RX4) (T := TX4) (N := 5) (ci := 4) hx hb hts inX4 hown hK hP 0 rfl rfl 1 (by decide) (hts _ q128) (fun _ h => h) rfl dX4_refuseUnfit_53 ?_
  refine lv_iload_n hx hb dX4_refuseUnfit_56 rfl (lv_at hl 3 rfl) ?_
  refine va_iald (f := (zCds σ)) hx hb hK hP 2 0 rfl rfl (hi) dX4_refuseUnfit_57 ?_
  refine lv_bipush (v := 9) hx hb dX4_refuseUnfit_58 (by decide) ?_
  refine c_icmp_ne (tgt := 95) hx hb dX4_refuseUnfit_60 (by decide) (fun h1 => ?_) (fun h1 => ?_)
  · skip
    exact W.vret hx hb hr (fun t ht hW => ⟨rfl, ht⟩) nil_free dX4_refuseUnfit_95
  · skip
    refine lv_aload hx hb dX4_refuseUnfit_63 (lv_at hl 0 rfl) ?_
    refine va_get (v := .ref (ra (20 + (zOps σ i.toNatClampNeg).toNatClampNeg / 4))) (C := RX0) (T := TX0) (N := 7) (ci := 1) hx hb hts inX0 hown hK hP (4 + (zOps σ i.toNatClampNeg).toNatClampNeg) (rw_bal (vp_lt hk)) rfl 0 (by decide) (hts _ q99) (fun _ h => h) rfl dX4_refuseUnfit_65 ?_
    refine lv_lload_n hx hb dX4_refuseUnfit_68 rfl (lv_at hl 5 rfl) ?_
    refine lv_aload hx hb dX4_refuseUnfit_69 (lv_at hl 0 rfl) ?_
    refine va_get (v := .long (zNow σ (zOps σ i.toNatClampNeg).toNatClampNeg)) (C := RX0) (T := TX0) (N := 7) (ci := 1) hx hb hts inX0 hown hK hP (4 + (zOps σ i.toNatClampNeg).toNatClampNeg) (rw_bal (vp_lt hk)) rfl 2 (by decide) (hts _ q103) (fun _ h => h) rfl dX4_refuseUnfit_71 ?_
    refine u_canMeet (k := ((zOps σ i.toNatClampNeg).toNatClampNeg / 4)) (rest := []) hx hb hml hown hts hA hK0 (k4 hk) (rw_soP hP (k4 hk)) q414 ⟨Nat.le_of_ble_eq_true rfl, Nat.le_of_ble_eq_true rfl⟩ ⟨Nat.zero_le _, Nat.zero_le _⟩ hl.1 (Nat.le_of_ble_eq_true rfl) dX4_refuseUnfit_74 ?_
    have kz2 : ¬ (so_canMeet ((zOps σ i.toNatClampNeg).toNatClampNeg / 4) v (zNow σ (zOps σ i.toNatClampNeg).toNatClampNeg)) = 0 := h3 (by assumption)
    refine c_if_ne (tgt := 95) hx hb dX4_refuseUnfit_77 (by decide) (fun _ => ?_) (fun hq => absurd hq kz2)
    exact W.vret hx hb hr (fun t ht hW => ⟨rfl, ht⟩) nil_free dX4_refuseUnfit_95
set_option maxHeartbeats 4000000 in
set_option maxRecDepth 100000 in
theorem x_X4_refuseUnfitA (l : Launch) (D : va_G) (A : Nat → Prop) (cI cB : ClassId) (ra : Nat → Nat) (σ : St) (fr : va_W) (i : Int32) (g : Int32) (v : Int64) (hst : l.stackTraces = false) (hi : vp_in i 12) (hk : vp_in (zOps σ i.toNatClampNeg) 16) (h1 : ¬ (sX4_sortOf (zOps σ i.toNatClampNeg)) = (sX4_sortOf g)) : XM l yX4_refuseUnfit cX4_refuseUnfit 7 none 6 [.ref (ra 0), .int i, .int g, .long v] (rPre D A cI cB (RW cI cB ra σ fr)) xIS D A (RW cI cB ra ((zCnt σ), (zNow σ), (zLst σ), (zGst σ), (zSwg σ), (zTrd σ), (zCds σ), (zOps σ), (zOrd σ), i) fr) := by
  refine vx_ofW (cc := cX4_refuseUnfit) (maxL := 7) (ret := none) (by decide) rfl ?_
  intro p e s m args below meth c s₁ B hml htb hv
  obtain ⟨rfl, hP, hK, hD, hA, hN, hT⟩ := hv
  have hx := B.exec
  have hb := B.bytes
  have hr := B.returns
  have hts : ∀ w ∈ AW, w.before _ s = true := fun w h => atoms_spec (ws := Cond.code yX4_refuseUnfit cX4_refuseUnfit 7 none :: AW) B.pre w (List.mem_cons_of_mem _ h)
  have hown : s.vm.findClass RX4 = some m.cls := findClass_of_methodNamed B.named
  have hlocks := B.notSynchronized
  have hS : va_S A s.heap s.heap [] := va_S.rf
  have hK0 := hK.sub (tys' := []) [] rfl
  have hl := lv_entry ([.ref (ra 0), .int i, .int g, .long v]) (n := 7) (Nat.le_of_ble_eq_true rfl)
  rw [lg_entry_eq]
  generalize (lg_sl ([.ref (ra 0), .int i, .int g, .long v]) ++ List.replicate (7 - (lg_sl ([.ref (ra 0), .int i, .int g, .long v])).length) Slot.unset).toArray = ls at hl ⊢
  have hl : lv_has ls 7 [(0, .ref (ra 0)), (1, .int i), (2, .int g), (3, .long v)] := hl
  have kn0 : ¬ (sX4_sortOf (zOps σ i.toNatClampNeg)) = (sX4_sortOf g) := h1
  refine lv_aload_n hx hb dX4_refuseUnfit_0 rfl (lv_at hl 0 rfl) ?_
  refine va_get (v := .ref (ra 3)) (C := RX4) (T := TX4) (N := 5) (ci := 4) hx hb hts inX4 hown hK hP 0 rfl rfl 2 (by decide) (hts _ q129) (fun _ h => h) rfl dX4_refuseUnfit_1 ?_
  refine lv_iload_n hx hb dX4_refuseUnfit_4 rfl (lv_at hl 1 rfl) ?_
  refine va_iald (f := (zOps σ)) hx hb hK hP 3 0 rfl rfl (hi) dX4_refuseUnfit_5 ?_
  refine lv_istore (lv' := [(5, .int (zOps σ i.toNatClampNeg)), (0, .ref (ra 0)), (1, .int i), (2, .int g), (3, .long v)]) hx hb dX4_refuseUnfit_6 hl (by decide) rfl (fun ls hl => ?_)
  refine lv_aload_n hx hb dX4_refuseUnfit_8 rfl (lv_at hl 1 rfl) ?_
  refine va_get (v := .ref (ra 1)) (C := RX4) (T := TX4) (N := 5) (ci := 4) hx hb hts inX4 hown hK hP 0 rfl rfl 0 (by decide) (hts _ q127) (fun _ h => h) rfl dX4_refuseUnfit_9 ?_
  refine lv_iload hx hb dX4_refuseUnfit_12 (lv_at hl 0 rfl) ?_
  refine va_aldq hx hb hK hP 1 1 rfl rfl (hk) dX4_refuseUnfit_14 ?_
  refine p_top (w := .ref (ra (4 + (zOps σ i.toNatClampNeg).toNatClampNeg))) rfl ?_
  refine lv_astore (lv' := [(6, .ref (ra (4 + (zOps σ i.toNatClampNeg).toNatClampNeg))), (5, .int (zOps σ i.toNatClampNeg)), (0, .ref (ra 0)), (1, .int i), (2, .int g), (3, .long v)]) hx hb dX4_refuseUnfit_15 hl (by decide) rfl (fun ls hl => ?_)
  refine lv_iload hx hb dX4_refuseUnfit_17 (lv_at hl 1 rfl) ?_
  refine p_S (rest := []) hx hb hml hown hts (m_X4_sortOf l (zOps σ i.toNatClampNeg)) q410 q411 q21 q412 nX4_sortOf ⟨Nat.le_of_ble_eq_true rfl, Nat.le_of_ble_eq_true rfl⟩ hl.1 rfl rfl (Nat.le_of_ble_eq_true rfl) dX4_refuseUnfit_19 ⟨Nat.zero_le _, Nat.zero_le _⟩ blind_c (fun _ _ _ => trivial) ?_
  refine lv_iload_n hx hb dX4_refuseUnfit_22 rfl (lv_at hl 4 rfl) ?_
  refine p_S (rest := [.int (sX4_sortOf (zOps σ i.toNatClampNeg))]) hx hb hml hown hts (m_X4_sortOf l g) q410 q411 q21 q412 nX4_sortOf ⟨Nat.le_of_ble_eq_true rfl, Nat.le_of_ble_eq_true rfl⟩ hl.1 rfl rfl (Nat.le_of_ble_eq_true rfl) dX4_refuseUnfit_23 ⟨Nat.zero_le _, Nat.zero_le _⟩ blind_c (fun _ _ _ => trivial) ?_
  refine c_icmp_ne (tgt := 37) hx hb dX4_refuseUnfit_26 (by decide) (fun _ => ?_) (fun hq => absurd hq kn0)
  refine lv_aload_n hx hb dX4_refuseUnfit_37 rfl (lv_at hl 2 rfl) ?_
  refine lv_iload_n hx hb dX4_refuseUnfit_38 rfl (lv_at hl 3 rfl) ?_
  refine va_put (C := RX4) (T := TX4) (N := 5) (ci := 4) (ty := .int) hx hb hts inX4 tyX4 tyX4_ok nmX4 hown hK hP hD hS 0 rfl rfl 4 (by decide) (hts _ q131) (fun _ h => h) rfl rfl rfl rfl (Nat.le_of_ble_eq_true rfl) dX4_refuseUnfit_39 (fun H locs hP hD hS => ?_)
  have hP : va_P D vwCl (RW cI cB ra ((zCnt σ), (zNow σ), (zLst σ), (zGst σ), (zSwg σ), (zTrd σ), (zCds σ), (zOps σ), (zOrd σ), i) fr) H := hP
  have hD : va_D A (RW cI cB ra ((zCnt σ), (zNow σ), (zLst σ), (zGst σ), (zSwg σ), (zTrd σ), (zCds σ), (zOps σ), (zOrd σ), i) fr) := hD
  exact x_throw (cls := xIS) (text := "an order's balance is of another sort or without a reading") hx hb hst hml hown hts hT htb hP hS fitIS q359 q33 (by decide) (at_IS hts hT) gdIS hl.1 dX4_refuseUnfit_42 dX4_refuseUnfit_45 dX4_refuseUnfit_46 dX4_refuseUnfit_48 dX4_refuseUnfit_51 ⟨Nat.le_of_ble_eq_true rfl, Nat.le_of_ble_eq_true rfl⟩ ⟨Nat.le_of_ble_eq_true rfl, Nat.le_of_ble_eq_true rfl⟩ hlocks
set_option maxHeartbeats 4000000 in
set_option maxRecDepth 100000 in
theorem x_X4_refuseUnfitB (l : Launch) (D : va_G) (A : Nat → Prop) (cI cB : ClassId) (ra : Nat → Nat) (σ : St) (fr : va_W) (i : Int32) (g : Int32) (v : Int64) (hst : l.stackTraces = false) (hi : vp_in i 12) (hk : vp_in (zOps σ i.toNatClampNeg) 16) (h1 : (sX4_sortOf (zOps σ i.toNatClampNeg)) = (sX4_sortOf g)) (h2 : (zCnt σ (zOps σ i.toNatClampNeg).toNatClampNeg) = 0) : XM l yX4_refuseUnfit cX4_refuseUnfit 7 none 6 [.ref (ra 0), .int i, .int g, .long v] (rPre D A cI cB (RW cI cB ra σ fr)) xIS D A (RW cI cB ra ((zCnt σ), (zNow σ), (zLst σ), (zGst σ), (zSwg σ), (zTrd σ), (zCds σ), (zOps σ), (zOrd σ), i) fr) := by
  refine vx_ofW (cc := cX4_refuseUnfit) (maxL := 7) (ret := none) (by decide) rfl ?_
  intro p e s m args below meth c s₁ B hml htb hv
  obtain ⟨rfl, hP, hK, hD, hA, hN, hT⟩ := hv
  have hx := B.exec
  have hb := B.bytes
  have hr := B.returns
  have hts : ∀ w ∈ AW, w.before _ s = true := fun w h => atoms_spec (ws := Cond.code yX4_refuseUnfit cX4_refuseUnfit 7 none :: AW) B.pre w (List.mem_cons_of_mem _ h)
  have hown : s.vm.findClass RX4 = some m.cls := findClass_of_methodNamed B.named
  have hlocks := B.notSynchronized
  have hS : va_S A s.heap s.heap [] := va_S.rf
  have hK0 := hK.sub (tys' := []) [] rfl
  have hl := lv_entry ([.ref (ra 0), .int i, .int g, .long v]) (n := 7) (Nat.le_of_ble_eq_true rfl)
  rw [lg_entry_eq]
  generalize (lg_sl ([.ref (ra 0), .int i, .int g, .long v]) ++ List.replicate (7 - (lg_sl ([.ref (ra 0), .int i, .int g, .long v])).length) Slot.unset).toArray = ls at hl ⊢
  have hl : lv_has ls 7 [(0, .ref (ra 0)), (1, .int i), (2, .int g), (3, .long v)] := hl
  have kn0 : (sX4_sortOf (zOps σ i.toNatClampNeg)) = (sX4_sortOf g) := h1
  have kn1 : (zCnt σ (zOps σ i.toNatClampNeg).toNatClampNeg) = 0 := h2
  refine lv_aload_n hx hb dX4_refuseUnfit_0 rfl (lv_at hl 0 rfl) ?_
  refine va_get (v := .ref (ra 3)) (C := RX4) (T := TX4) (N := 5) (ci := 4) hx hb hts inX4 hown hK hP 0 rfl rfl 2 (by decide) (hts _ q129) (fun _ h => h) rfl dX4_refuseUnfit_1 ?_
  refine lv_iload_n hx hb dX4_refuseUnfit_4 rfl (lv_at hl 1 rfl) ?_
  refine va_iald (f := (zOps σ)) hx hb hK hP 3 0 rfl rfl (hi) dX4_refuseUnfit_5 ?_
  refine lv_istore (lv' := [(5, .int (zOps σ i.toNatClampNeg)), (0, .ref (ra 0)), (1, .int i), (2, .int g), (3, .long v)]) hx hb dX4_refuseUnfit_6 hl (by decide) rfl (fun ls hl => ?_)
  refine lv_aload_n hx hb dX4_refuseUnfit_8 rfl (lv_at hl 1 rfl) ?_
  refine va_get (v := .ref (ra 1)) (C := RX4) (T := TX4) (N := 5) (ci := 4) hx hb hts inX4 hown hK hP 0 rfl rfl 0 (by decide) (hts _ q127) (fun _ h => h) rfl dX4_refuseUnfit_9 ?_
  refine lv_iload hx hb dX4_refuseUnfit_12 (lv_at hl 0 rfl) ?_
  refine va_aldq hx hb hK hP 1 1 rfl rfl (hk) dX4_refuseUnfit_14 ?_
  refine p_top (w := .ref (ra (4 + (zOps σ i.toNatClampNeg).toNatClampNeg))) rfl ?_
  refine lv_astore (lv' := [(6, .ref (ra (4 + (zOps σ i.toNatClampNeg).toNatClampNeg))), (5, .int (zOps σ i.toNatClampNeg)), (0, .ref (ra 0)), (1, .int i), (2, .int g), (3, .long v)]) hx hb dX4_refuseUnfit_15 hl (by decide) rfl (fun ls hl => ?_)
  refine lv_iload hx hb dX4_refuseUnfit_17 (lv_at hl 1 rfl) ?_
  refine p_S (rest := []) hx hb hml hown hts (m_X4_sortOf l (zOps σ i.toNatClampNeg)) q410 q411 q21 q412 nX4_sortOf ⟨Nat.le_of_ble_eq_true rfl, Nat.le_of_ble_eq_true rfl⟩ hl.1 rfl rfl (Nat.le_of_ble_eq_true rfl) dX4_refuseUnfit_19 ⟨Nat.zero_le _, Nat.zero_le _⟩ blind_c (fun _ _ _ => trivial) ?_
  refine lv_iload_n hx hb dX4_refuseUnfit_22 rfl (lv_at hl 4 rfl) ?_
  refine p_S (rest := [.int (sX4_sortOf (zOps σ i.toNatClampNeg))]) hx hb hml hown hts (m_X4_sortOf l g) q410 q411 q21 q412 nX4_sortOf ⟨Nat.le_of_ble_eq_true rfl, Nat.le_of_ble_eq_true rfl⟩ hl.1 rfl rfl (Nat.le_of_ble_eq_true rfl) dX4_refuseUnfit_23 ⟨Nat.zero_le _, Nat.zero_le _⟩ blind_c (fun _ _ _ => trivial) ?_
  refine c_icmp_ne (tgt := 37) hx hb dX4_refuseUnfit_26 (by decide) (fun hq => absurd kn0 hq) (fun _ => ?_)
  refine lv_aload hx hb dX4_refuseUnfit_29 (lv_at hl 0 rfl) ?_
  refine va_get (v := .int (zCnt σ (zOps σ i.toNatClampNeg).toNatClampNeg)) (C := RX0) (T := TX0) (N := 7) (ci := 1) hx hb hts inX0 hown hK hP (4 + (zOps σ i.toNatClampNeg).toNatClampNeg) (rw_bal (vp_lt hk)) rfl 1 (by decide) (hts _ q101) (fun _ h => h) rfl dX4_refuseUnfit_31 ?_
  refine c_if_ne (tgt := 52) hx hb dX4_refuseUnfit_34 (by decide) (fun hq => absurd kn1 hq) (fun _ => ?_)
  refine lv_aload_n hx hb dX4_refuseUnfit_37 rfl (lv_at hl 2 rfl) ?_
  refine lv_iload_n hx hb dX4_refuseUnfit_38 rfl (lv_at hl 3 rfl) ?_
  refine va_put (C := RX4) (T := TX4) (N := 5) (ci := 4) (ty := .int) hx hb hts inX4 tyX4 tyX4_ok nmX4 hown hK hP hD hS 0 rfl rfl 4 (by decide) (hts _ q131) (fun _ h => h) rfl rfl rfl rfl (Nat.le_of_ble_eq_true rfl) dX4_refuseUnfit_39 (fun H locs hP hD hS => ?_)
  have hP : va_P D vwCl (RW cI cB ra ((zCnt σ), (zNow σ), (zLst σ), (zGst σ), (zSwg σ), (zTrd σ), (zCds σ), (zOps σ), (zOrd σ), i) fr) H := hP
  have hD : va_D A (RW cI cB ra ((zCnt σ), (zNow σ), (zLst σ), (zGst σ), (zSwg σ), (zTrd σ), (zCds σ), (zOps σ), (zOrd σ), i) fr) := hD
  exact x_throw (cls := xIS) (text := "an order's balance is of another sort or without a reading") hx hb hst hml hown hts hT htb hP hS fitIS q359 q33 (by decide) (at_IS hts hT) gdIS hl.1 dX4_refuseUnfit_42 dX4_refuseUnfit_45 dX4_refuseUnfit_46 dX4_refuseUnfit_48 dX4_refuseUnfit_51 ⟨Nat.le_of_ble_eq_true rfl, Nat.le_of_ble_eq_true rfl⟩ ⟨Nat.le_of_ble_eq_true rfl, Nat.le_of_ble_eq_true rfl⟩ hlocks
set_option maxHeartbeats 4000000 in
set_option maxRecDepth 100000 in
theorem x_X4_refuseUnfitC (l : Launch) (D : va_G) (A : Nat → Prop) (cI cB : ClassId) (ra : Nat → Nat) (σ : St) (fr : va_W) (i : Int32) (g : Int32) (v : Int64) (hst : l.stackTraces = false) (hi : vp_in i 12) (hk : vp_in (zOps σ i.toNatClampNeg) 16) (h1 : (sX4_sortOf (zOps σ i.toNatClampNeg)) = (sX4_sortOf g)) (h2 : ¬ (zCnt σ (zOps σ i.toNatClampNeg).toNatClampNeg) = 0) (h3 : (zCds σ i.toNatClampNeg) = (9 : Int32)) (h4 : (so_canMeet ((zOps σ i.toNatClampNeg).toNatClampNeg / 4) v (zNow σ (zOps σ i.toNatClampNeg).toNatClampNeg)) = 0) : XM l yX4_refuseUnfit cX4_refuseUnfit 7 none 6 [.ref (ra 0), .int i, .int g, .long v] (rPre D A cI cB (RW cI cB ra σ fr)) xAR D A (RW cI cB ra ((zCnt σ), (zNow σ), (zLst σ), (zGst σ), (zSwg σ), (zTrd σ), (zCds σ), (zOps σ), (zOrd σ), i) fr) := by
  refine vx_ofW (cc := cX4_refuseUnfit) (maxL := 7) (ret := none) (by decide) rfl ?_
  intro p e s m args below meth c s₁ B hml htb hv
  obtain ⟨rfl, hP, hK, hD, hA, hN, hT⟩ := hv
  have hx := B.exec
  have hb := B.bytes
  have hr := B.returns
  have hts : ∀ w ∈ AW, w.before _ s = true := fun w h => atoms_spec (ws := Cond.code yX4_refuseUnfit cX4_refuseUnfit 7 none :: AW) B.pre w (List.mem_cons_of_mem _ h)
  have hown : s.vm.findClass RX4 = some m.cls := findClass_of_methodNamed B.named
  have hlocks := B.notSynchronized
  have hS : va_S A s.heap s.heap [] := va_S.rf
  have hK0 := hK.sub (tys' := []) [] rfl
  have hl := lv_entry ([.ref (ra 0), .int i, .int g, .long v]) (n := 7) (Nat.le_of_ble_eq_true rfl)
  rw [lg_entry_eq]
  generalize (lg_sl ([.ref (ra 0), .int i, .int g, .long v]) ++ List.replicate (7 - (lg_sl ([.ref (ra 0), .int i, .int g, .long v])).length) Slot.unset).toArray = ls at hl ⊢
  have hl : lv_has ls 7 [(0, .ref (ra 0)), (1, .int i), (2, .int g), (3, .long v)] := hl
  have kn0 : (sX4_sortOf (zOps σ i.toNatClampNeg)) = (sX4_sortOf g) := h1
  have kn1 : ¬ (zCnt σ (zOps σ i.toNatClampNeg).toNatClampNeg) = 0 := h2
  have kn2 : (zCds σ i.toNatClampNeg) = (9 : Int32) := h3
  have kn3 : (so_canMeet ((zOps σ i.toNatClampNeg).toNatClampNeg / 4) v (zNow σ (zOps σ i.toNatClampNeg).toNatClampNeg)) = 0 := h4
  refine lv_aload_n hx hb dX4_refuseUnfit_0 rfl (lv_at hl 0 rfl) ?_
  refine va_get (v := .ref (ra 3)) (C := RX4) (T := TX4) (N := 5) (ci := 4) hx hb hts inX4 hown hK hP 0 rfl rfl 2 (by decide) (hts _ q129) (fun _ h => h) rfl dX4_refuseUnfit_1 ?_
  refine lv_iload_n hx hb dX4_refuseUnfit_4 rfl (lv_at hl 1 rfl) ?_
  refine va_iald (f := (zOps σ)) hx hb hK hP 3 0 rfl rfl (hi) dX4_refuseUnfit_5 ?_
  refine lv_istore (lv' := [(5, .int (zOps σ i.toNatClampNeg)), (0, .ref (ra 0)), (1, .int i), (2, .int g), (3, .long v)]) hx hb dX4_refuseUnfit_6 hl (by decide) rfl (fun ls hl => ?_)
  refine lv_aload_n hx hb dX4_refuseUnfit_8 rfl (lv_at hl 1 rfl) ?_
  refine va_get (v := .ref (ra 1)) (C := RX4) (T := TX4) (N := 5) (ci := 4) hx hb hts inX4 hown hK hP 0 rfl rfl 0 (by decide) (hts _ q127) (fun _ h => h) rfl dX4_refuseUnfit_9 ?_
  refine lv_iload hx hb dX4_refuseUnfit_12 (lv_at hl 0 rfl) ?_
  refine va_aldq hx hb hK hP 1 1 rfl rfl (hk) dX4_refuseUnfit_14 ?_
  refine p_top (w := .ref (ra (4 + (zOps σ i.toNatClampNeg).toNatClampNeg))) rfl ?_
  refine lv_astore (lv' := [(6, .ref (ra (4 + (zOps σ i.toNatClampNeg).toNatClampNeg))), (5, .int (zOps σ i.toNatClampNeg)), (0, .ref (ra 0)), (1, .int i), (2, .int g), (3, .long v)]) hx hb dX4_refuseUnfit_15 hl (by decide) rfl (fun ls hl => ?_)
  refine lv_iload hx hb dX4_refuseUnfit_17 (lv_at hl 1 rfl) ?_
  refine p_S (rest := []) hx hb hml hown hts (m_X4_sortOf l (zOps σ i.toNatClampNeg)) q410 q411 q21 q412 nX4_sortOf ⟨Nat.le_of_ble_eq_true rfl, Nat.le_of_ble_eq_true rfl⟩ hl.1 rfl rfl (Nat.le_of_ble_eq_true rfl) dX4_refuseUnfit_19 ⟨Nat.zero_le _, Nat.zero_le _⟩ blind_c (fun _ _ _ => trivial) ?_
  refine lv_iload_n hx hb dX4_refuseUnfit_22 rfl (lv_at hl 4 rfl) ?_
  refine p_S (rest := [.int (sX4_sortOf (zOps σ i.toNatClampNeg))]) hx hb hml hown hts (m_X4_sortOf l g) q410 q411 q21 q412 nX4_sortOf ⟨Nat.le_of_ble_eq_true rfl, Nat.le_of_ble_eq_true rfl⟩ hl.1 rfl rfl (Nat.le_of_ble_eq_true rfl) dX4_refuseUnfit_23 ⟨Nat.zero_le _, Nat.zero_le _⟩ blind_c (fun _ _ _ => trivial) ?_
  refine c_icmp_ne (tgt := 37) hx hb dX4_refuseUnfit_26 (by decide) (fun hq => absurd kn0 hq) (fun _ => ?_)
  refine lv_aload hx hb dX4_refuseUnfit_29 (lv_at hl 0 rfl) ?_
  refine va_get (v := .int (zCnt σ (zOps σ i.toNatClampNeg).toNatClampNeg)) (C := RX0) (T := TX0) (N := 7) (ci := 1) hx hb hts inX0 hown hK hP (4 + (zOps σ i.toNatClampNeg).toNatClampNeg) (rw_bal (vp_lt hk)) rfl 1 (by decide) (hts _ q101) (fun _ h => h) rfl dX4_refuseUnfit_31 ?_
  refine c_if_ne (tgt := 52) hx hb dX4_refuseUnfit_34 (by decide) (fun _ => ?_) (fun hq => absurd hq kn1)
  refine lv_aload_n hx hb dX4_refuseUnfit_52 rfl (lv_at hl 2 rfl) ?_
  refine va_get (v := .ref (ra 2)) (C := RX4) (T := TX4) (N := 5) (ci := 4) hx hb hts inX4 hown hK hP 0 rfl rfl 1 (by decide) (hts _ q128) (fun _ h => h) rfl dX4_refuseUnfit_53 ?_
  refine lv_iload_n hx hb dX4_refuseUnfit_56 rfl (lv_at hl 3 rfl) ?_
  refine va_iald (f := (zCds σ)) hx hb hK hP 2 0 rfl rfl (hi) dX4_refuseUnfit_57 ?_
  refine lv_bipush (v := 9) hx hb dX4_refuseUnfit_58 (by decide) ?_
  refine c_icmp_ne (tgt := 95) hx hb dX4_refuseUnfit_60 (by decide) (fun hq => absurd kn2 hq) (fun _ => ?_)
  refine lv_aload hx hb dX4_refuseUnfit_63 (lv_at hl 0 rfl) ?_
  refine va_get (v := .ref (ra (20 + (zOps σ i.toNatClampNeg).toNatClampNeg / 4))) (C := RX0) (T := TX0) (N := 7) (ci := 1) hx hb hts inX0 hown hK hP (4 + (zOps σ i.toNatClampNeg).toNatClampNeg) (rw_bal (vp_lt hk)) rfl 0 (by decide) (hts _ q99) (fun _ h => h) rfl dX4_refuseUnfit_65 ?_
  refine lv_lload_n hx hb dX4_refuseUnfit_68 rfl (lv_at hl 5 rfl) ?_
  refine lv_aload hx hb dX4_refuseUnfit_69 (lv_at hl 0 rfl) ?_
  refine va_get (v := .long (zNow σ (zOps σ i.toNatClampNeg).toNatClampNeg)) (C := RX0) (T := TX0) (N := 7) (ci := 1) hx hb hts inX0 hown hK hP (4 + (zOps σ i.toNatClampNeg).toNatClampNeg) (rw_bal (vp_lt hk)) rfl 2 (by decide) (hts _ q103) (fun _ h => h) rfl dX4_refuseUnfit_71 ?_
  refine u_canMeet (k := ((zOps σ i.toNatClampNeg).toNatClampNeg / 4)) (rest := []) hx hb hml hown hts hA hK0 (k4 hk) (rw_soP hP (k4 hk)) q414 ⟨Nat.le_of_ble_eq_true rfl, Nat.le_of_ble_eq_true rfl⟩ ⟨Nat.zero_le _, Nat.zero_le _⟩ hl.1 (Nat.le_of_ble_eq_true rfl) dX4_refuseUnfit_74 ?_
  refine c_if_ne (tgt := 95) hx hb dX4_refuseUnfit_77 (by decide) (fun hq => absurd kn3 hq) (fun _ => ?_)
  refine lv_aload_n hx hb dX4_refuseUnfit_80 rfl (lv_at hl 2 rfl) ?_
  refine lv_iload_n hx hb dX4_refuseUnfit_81 rfl (lv_at hl 3 rfl) ?_
  refine va_put (C := RX4) (T := TX4) (N := 5) (ci := 4) (ty := .int) hx hb hts inX4 tyX4 tyX4_ok nmX4 hown hK hP hD hS 0 rfl rfl 4 (by decide) (hts _ q131) (fun _ h => h) rfl rfl rfl rfl (Nat.le_of_ble_eq_true rfl) dX4_refuseUnfit_82 (fun H locs hP hD hS => ?_)
  have hP : va_P D vwCl (RW cI cB ra ((zCnt σ), (zNow σ), (zLst σ), (zGst σ), (zSwg σ), (zTrd σ), (zCds σ), (zOps σ), (zOrd σ), i) fr) H := hP
  have hD : va_D A (RW cI cB ra ((zCnt σ), (zNow σ), (zLst σ), (zGst σ), (zSwg σ), (zTrd σ), (zCds σ), (zOps σ), (zOrd σ), i) fr) := hD
  exact x_throw (cls := xAR) (text := "infinite ones with unlike signs do not meet") hx hb hst hml hown hts hT htb hP hS fitAR q423 q34 (by decide) (at_AR hts hT) gdAR hl.1 dX4_refuseUnfit_85 dX4_refuseUnfit_88 dX4_refuseUnfit_89 dX4_refuseUnfit_91 dX4_refuseUnfit_94 ⟨Nat.le_of_ble_eq_true rfl, Nat.le_of_ble_eq_true rfl⟩ ⟨Nat.le_of_ble_eq_true rfl, Nat.le_of_ble_eq_true rfl⟩ hlocks
