theorem k4 {g : Int32} (h : vp_in g 16) : g.toNatClampNeg / 4 < 4 := by have := vp_lt h; omega
def sX4_read (σ : St) (g : Int32) (v : Int64) : Int32 := (sX0_take (g.toNatClampNeg / 4) (zCnt σ g.toNatClampNeg) (zNow σ g.toNatClampNeg) (zLst σ g.toNatClampNeg) (zGst σ g.toNatClampNeg) (zSwg σ g.toNatClampNeg) (zTrd σ g.toNatClampNeg) (so_fromBits (g.toNatClampNeg / 4) v))
def tsX4_read (σ : St) (g : Int32) (v : Int64) : St := (zBal σ g.toNatClampNeg (rX0_take_c (g.toNatClampNeg / 4) (zCnt σ g.toNatClampNeg) (zNow σ g.toNatClampNeg) (zLst σ g.toNatClampNeg) (zGst σ g.toNatClampNeg) (zSwg σ g.toNatClampNeg) (zTrd σ g.toNatClampNeg) (so_fromBits (g.toNatClampNeg / 4) v)) (rX0_take_n (g.toNatClampNeg / 4) (zCnt σ g.toNatClampNeg) (zNow σ g.toNatClampNeg) (zLst σ g.toNatClampNeg) (zGst σ g.toNatClampNeg) (zSwg σ g.toNatClampNeg) (zTrd σ g.toNatClampNeg) (so_fromBits (g.toNatClampNeg / 4) v)) (rX0_take_l (g.toNatClampNeg / 4) (zCnt σ g.toNatClampNeg) (zNow σ g.toNatClampNeg) (zLst σ g.toNatClampNeg) (zGst σ g.toNatClampNeg) (zSwg σ g.toNatClampNeg) (zTrd σ g.toNatClampNeg) (so_fromBits (g.toNatClampNeg / 4) v)) (rX0_take_h (g.toNatClampNeg / 4) (zCnt σ g.toNatClampNeg) (zNow σ g.toNatClampNeg) (zLst σ g.toNatClampNeg) (zGst σ g.toNatClampNeg) (zSwg σ g.toNatClampNeg) (zTrd σ g.toNatClampNeg) (so_fromBits (g.toNatClampNeg / 4) v)) (rX0_take_w (g.toNatClampNeg / 4) (zCnt σ g.toNatClampNeg) (zNow σ g.toNatClampNeg) (zLst σ g.toNatClampNeg) (zGst σ g.toNatClampNeg) (zSwg σ g.toNatClampNeg) (zTrd σ g.toNatClampNeg) (so_fromBits (g.toNatClampNeg / 4) v)) (rX0_take_t (g.toNatClampNeg / 4) (zCnt σ g.toNatClampNeg) (zNow σ g.toNatClampNeg) (zLst σ g.toNatClampNeg) (zGst σ g.toNatClampNeg) (zSwg σ g.toNatClampNeg) (zTrd σ g.toNatClampNeg) (so_fromBits (g.toNatClampNeg / 4) v)))
theorem nX4_read : yX4_read.cls ≠ "java/lang/invoke/MethodHandle" ∧ yX4_read.cls ≠ "java/lang/invoke/VarHandle" ∧ (parseMethodDescriptor yX4_read.desc).map (fun d => d.parameters.length) = some 2 := by decide +kernel
set_option maxHeartbeats 4000000 in
set_option maxRecDepth 100000 in
theorem m_X4_read (l : Launch) (D : va_G) (A : Nat → Prop) (cI cB : ClassId) (ra : Nat → Nat) (σ : St) (fr : va_W) (g : Int32) (v : Int64) (hg : vp_in g 16) (hn : ¬ (so_isNumber (g.toNatClampNeg / 4) (so_fromBits (g.toNatClampNeg / 4) v)) = 0) : IM l yX4_read cX4_read 7 (some .int) 7 [.ref (ra 0), .int g, .long v] (rPre D A cI cB (RW cI cB ra σ fr)) D A (some (.int (sX4_read σ g v))) (RW cI cB ra (tsX4_read σ g v) fr) := by
  refine Met.ofW (cc := cX4_read) (maxL := 7) (ret := (some .int)) (by decide) rfl ?_
  intro p e s m args below meth c s₁ B hml hv
  obtain ⟨rfl, hP, hK, hD, hA, hN, hT⟩ := hv
  have hx := B.exec
  have hb := B.bytes
  have hr := B.returns
  have hts : ∀ w ∈ AW, w.before _ s = true := fun w h => atoms_spec (ws := Cond.code yX4_read cX4_read 7 (some .int) :: AW) B.pre w (List.mem_cons_of_mem _ h)
  have hown : s.vm.findClass RX4 = some m.cls := findClass_of_methodNamed B.named
  have hlocks := B.notSynchronized
  have hS : va_S A s.heap s.heap [] := va_S.rf
  have hK0 := hK.sub (tys' := []) [] rfl
  have hl := lv_entry ([.ref (ra 0), .int g, .long v]) (n := 7) (Nat.le_of_ble_eq_true rfl)
  rw [lg_entry_eq]
  generalize (lg_sl ([.ref (ra 0), .int g, .long v]) ++ List.replicate (7 - (lg_sl ([.ref (ra 0), .int g, .long v])).length) Slot.unset).toArray = ls at hl ⊢
  have hl : lv_has ls 7 [(0, .ref (ra 0)), (1, .int g), (2, .long v)] := hl
  have kn0 : ¬ (so_isNumber (g.toNatClampNeg / 4) (so_fromBits (g.toNatClampNeg / 4) v)) = 0 := hn
  refine lv_aload_n hx hb dX4_read_0 rfl (lv_at hl 0 rfl) ?_
  refine lv_iload_n hx hb dX4_read_1 rfl (lv_at hl 1 rfl) ?_
  refine p_V (C := RX4) (rest := []) hx hb hml hown hts (m_X4_balanceAt l D A cI cB ra σ fr g hg) q159 q161 q0 q21 q162 rfl nX4_balanceAt ⟨Nat.le_of_ble_eq_true rfl, Nat.le_of_ble_eq_true rfl⟩ hl.1 rfl rfl (Nat.le_of_ble_eq_true rfl) dX4_read_2 ⟨Nat.zero_le _, Nat.zero_le _⟩ rPre_bl (va_recv hK hP (ci := 4) (q0 := 0) rfl rfl) (rPre_go hP hK hD hA hN hT hS) ?_
  refine lv_astore (lv' := [(4, .ref (ra (4 + g.toNatClampNeg))), (0, .ref (ra 0)), (1, .int g), (2, .long v)]) hx hb dX4_read_5 hl (by decide) rfl (fun ls hl => ?_)
  refine lv_aload hx hb dX4_read_7 (lv_at hl 0 rfl) ?_
  refine va_get (v := .ref (ra (20 + g.toNatClampNeg / 4))) (C := RX0) (T := TX0) (N := 7) (ci := 1) hx hb hts inX0 hown hK hP (4 + g.toNatClampNeg) (rw_bal (vp_lt hg)) rfl 0 (by decide) (hts _ q99) (fun _ h => h) rfl dX4_read_9 ?_
  refine lv_lload_n hx hb dX4_read_12 rfl (lv_at hl 3 rfl) ?_
  refine u_fromBits (k := (g.toNatClampNeg / 4)) (rest := []) hx hb hml hown hts hA hK0 (k4 hg) (rw_soP hP (k4 hg)) q231 ⟨Nat.le_of_ble_eq_true rfl, Nat.le_of_ble_eq_true rfl⟩ ⟨Nat.zero_le _, Nat.zero_le _⟩ hl.1 (Nat.le_of_ble_eq_true rfl) dX4_read_13 ?_
  refine lv_lstore (lv' := [(5, .long (so_fromBits (g.toNatClampNeg / 4) v)), (4, .ref (ra (4 + g.toNatClampNeg))), (0, .ref (ra 0)), (1, .int g), (2, .long v)]) hx hb dX4_read_16 hl (by decide) rfl (fun ls hl => ?_)
  refine lv_aload hx hb dX4_read_18 (lv_at hl 1 rfl) ?_
  refine va_get (v := .ref (ra (20 + g.toNatClampNeg / 4))) (C := RX0) (T := TX0) (N := 7) (ci := 1) hx hb hts inX0 hown hK hP (4 + g.toNatClampNeg) (rw_bal (vp_lt hg)) rfl 0 (by decide) (hts _ q99) (fun _ h => h) rfl dX4_read_20 ?_
  refine lv_lload hx hb dX4_read_23 (lv_at hl 0 rfl) ?_
  refine u_isNumber (k := (g.toNatClampNeg / 4)) (rest := []) hx hb hml hown hts hA hK0 (k4 hg) (rw_soP hP (k4 hg)) q237 ⟨Nat.le_of_ble_eq_true rfl, Nat.le_of_ble_eq_true rfl⟩ ⟨Nat.zero_le _, Nat.zero_le _⟩ hl.1 (Nat.le_of_ble_eq_true rfl) dX4_read_25 ?_
  refine c_if_ne (tgt := 41) hx hb dX4_read_28 (by decide) (fun _ => ?_) (fun hq => absurd hq kn0)
  refine lv_aload hx hb dX4_read_41 (lv_at hl 1 rfl) ?_
  refine lv_lload hx hb dX4_read_43 (lv_at hl 0 rfl) ?_
  refine r_bal (g := g.toNatClampNeg) (rest := []) hx hb hml hown hts (m_X0_take l D _ _ (g.toNatClampNeg / 4) (zCnt σ g.toNatClampNeg) (zNow σ g.toNatClampNeg) (zLst σ g.toNatClampNeg) (zGst σ g.toNatClampNeg) (zSwg σ g.toNatClampNeg) (zTrd σ g.toNatClampNeg) (so_fromBits (g.toNatClampNeg / 4) v)) q251 q252 q253 q25 q254 rfl nX0_take ⟨Nat.le_of_ble_eq_true rfl, Nat.le_of_ble_eq_true rfl⟩ hl.1 rfl rfl (Nat.le_of_ble_eq_true rfl) dX4_read_45 ⟨Nat.zero_le _, Nat.zero_le _⟩ (vp_lt hg) hP hK hD hA hS (fun H locs hP hD hS => ?_)
  exact W.iret hx hb hr (fun t ht hW => ⟨rfl, (by rw [ht]; exact hP), hS.F ht⟩) hS.2.2 dX4_read_48
set_option maxHeartbeats 4000000 in
set_option maxRecDepth 100000 in
theorem x_X4_readN (l : Launch) (D : va_G) (A : Nat → Prop) (cI cB : ClassId) (ra : Nat → Nat) (σ : St) (fr : va_W) (g : Int32) (v : Int64) (hst : l.stackTraces = false) (hg : ¬ vp_in g 16) : XM l yX4_read cX4_read 7 (some .int) 7 [.ref (ra 0), .int g, .long v] (rPre D A cI cB (RW cI cB ra σ fr)) xIA D A (RW cI cB ra σ fr) := by
  refine vx_ofW (cc := cX4_read) (maxL := 7) (ret := (some .int)) (by decide) rfl ?_
  intro p e s m args below meth c s₁ B hml htb hv
  obtain ⟨rfl, hP, hK, hD, hA, hN, hT⟩ := hv
  have hx := B.exec
  have hb := B.bytes
  have hr := B.returns
  have hts : ∀ w ∈ AW, w.before _ s = true := fun w h => atoms_spec (ws := Cond.code yX4_read cX4_read 7 (some .int) :: AW) B.pre w (List.mem_cons_of_mem _ h)
  have hown : s.vm.findClass RX4 = some m.cls := findClass_of_methodNamed B.named
  have hlocks := B.notSynchronized
  have hS : va_S A s.heap s.heap [] := va_S.rf
  have hK0 := hK.sub (tys' := []) [] rfl
  have hl := lv_entry ([.ref (ra 0), .int g, .long v]) (n := 7) (Nat.le_of_ble_eq_true rfl)
  rw [lg_entry_eq]
  generalize (lg_sl ([.ref (ra 0), .int g, .long v]) ++ List.replicate (7 - (lg_sl ([.ref (ra 0), .int g, .long v])).length) Slot.unset).toArray = ls at hl ⊢
  have hl : lv_has ls 7 [(0, .ref (ra 0)), (1, .int g), (2, .long v)] := hl
  refine lv_aload_n hx hb dX4_read_0 rfl (lv_at hl 0 rfl) ?_
  refine lv_iload_n hx hb dX4_read_1 rfl (lv_at hl 1 rfl) ?_
  exact x_out (C := RX4) (rest := []) hx hb hml hown hts htb (x_X4_balanceAtN l D A cI cB ra σ fr g hst hg) q159 q161 q0 q21 q162 rfl nX4_balanceAt ⟨Nat.le_of_ble_eq_true rfl, Nat.le_of_ble_eq_true rfl⟩ hl.1 rfl rfl (Nat.le_of_ble_eq_true rfl) dX4_read_2 ⟨Nat.le_of_ble_eq_true rfl, Nat.le_of_ble_eq_true rfl⟩ rPre_bl (va_recv hK hP (ci := 4) (q0 := 0) rfl rfl) (rPre_go hP hK hD hA hN hT hS) hS hlocks
set_option maxHeartbeats 4000000 in
set_option maxRecDepth 100000 in
theorem x_X4_readX (l : Launch) (D : va_G) (A : Nat → Prop) (cI cB : ClassId) (ra : Nat → Nat) (σ : St) (fr : va_W) (g : Int32) (v : Int64) (hst : l.stackTraces = false) (hg : vp_in g 16) (hn : (so_isNumber (g.toNatClampNeg / 4) (so_fromBits (g.toNatClampNeg / 4) v)) = 0) : XM l yX4_read cX4_read 7 (some .int) 7 [.ref (ra 0), .int g, .long v] (rPre D A cI cB (RW cI cB ra σ fr)) xIA D A (RW cI cB ra σ fr) := by
  refine vx_ofW (cc := cX4_read) (maxL := 7) (ret := (some .int)) (by decide) rfl ?_
  intro p e s m args below meth c s₁ B hml htb hv
  obtain ⟨rfl, hP, hK, hD, hA, hN, hT⟩ := hv
  have hx := B.exec
  have hb := B.bytes
  have hr := B.returns
  have hts : ∀ w ∈ AW, w.before _ s = true := fun w h => atoms_spec (ws := Cond.code yX4_read cX4_read 7 (some .int) :: AW) B.pre w (List.mem_cons_of_mem _ h)
  have hown : s.vm.findClass RX4 = some m.cls := findClass_of_methodNamed B.named
  have hlocks := B.notSynchronized
  have hS : va_S A s.heap s.heap [] := va_S.rf
  have hK0 := hK.sub (tys' := []) [] rfl
  have hl := lv_entry ([.ref (ra 0), .int g, .long v]) (n := 7) (Nat.le_of_ble_eq_true rfl)
  rw [lg_entry_eq]
  generalize (lg_sl ([.ref (ra 0), .int g, .long v]) ++ List.replicate (7 - (lg_sl ([.ref (ra 0), .int g, .long v])).length) Slot.unset).toArray = ls at hl ⊢
  have hl : lv_has ls 7 [(0, .ref (ra 0)), (1, .int g), (2, .long v)] := hl
  have kn0 : (so_isNumber (g.toNatClampNeg / 4) (so_fromBits (g.toNatClampNeg / 4) v)) = 0 := hn
  refine lv_aload_n hx hb dX4_read_0 rfl (lv_at hl 0 rfl) ?_
  refine lv_iload_n hx hb dX4_read_1 rfl (lv_at hl 1 rfl) ?_
  refine p_V (C := RX4) (rest := []) hx hb hml hown hts (m_X4_balanceAt l D A cI cB ra σ fr g hg) q159 q161 q0 q21 q162 rfl nX4_balanceAt ⟨Nat.le_of_ble_eq_true rfl, Nat.le_of_ble_eq_true rfl⟩ hl.1 rfl rfl (Nat.le_of_ble_eq_true rfl) dX4_read_2 ⟨Nat.zero_le _, Nat.zero_le _⟩ rPre_bl (va_recv hK hP (ci := 4) (q0 := 0) rfl rfl) (rPre_go hP hK hD hA hN hT hS) ?_
  refine lv_astore (lv' := [(4, .ref (ra (4 + g.toNatClampNeg))), (0, .ref (ra 0)), (1, .int g), (2, .long v)]) hx hb dX4_read_5 hl (by decide) rfl (fun ls hl => ?_)
  refine lv_aload hx hb dX4_read_7 (lv_at hl 0 rfl) ?_
  refine va_get (v := .ref (ra (20 + g.toNatClampNeg / 4))) (C := RX0) (T := TX0) (N := 7) (ci := 1) hx hb hts inX0 hown hK hP (4 + g.toNatClampNeg) (rw_bal (vp_lt hg)) rfl 0 (by decide) (hts _ q99) (fun _ h => h) rfl dX4_read_9 ?_
  refine lv_lload_n hx hb dX4_read_12 rfl (lv_at hl 3 rfl) ?_
  refine u_fromBits (k := (g.toNatClampNeg / 4)) (rest := []) hx hb hml hown hts hA hK0 (k4 hg) (rw_soP hP (k4 hg)) q231 ⟨Nat.le_of_ble_eq_true rfl, Nat.le_of_ble_eq_true rfl⟩ ⟨Nat.zero_le _, Nat.zero_le _⟩ hl.1 (Nat.le_of_ble_eq_true rfl) dX4_read_13 ?_
  refine lv_lstore (lv' := [(5, .long (so_fromBits (g.toNatClampNeg / 4) v)), (4, .ref (ra (4 + g.toNatClampNeg))), (0, .ref (ra 0)), (1, .int g), (2, .long v)]) hx hb dX4_read_16 hl (by decide) rfl (fun ls hl => ?_)
  refine lv_aload hx hb dX4_read_18 (lv_at hl 1 rfl) ?_
  refine va_get (v := .ref (ra (20 + g.toNatClampNeg / 4))) (C := RX0) (T := TX0) (N := 7) (ci := 1) hx hb hts inX0 hown hK hP (4 + g.toNatClampNeg) (rw_bal (vp_lt hg)) rfl 0 (by decide) (hts _ q99) (fun _ h => h) rfl dX4_read_20 ?_
  refine lv_lload hx hb dX4_read_23 (lv_at hl 0 rfl) ?_
  refine u_isNumber (k := (g.toNatClampNeg / 4)) (rest := []) hx hb hml hown hts hA hK0 (k4 hg) (rw_soP hP (k4 hg)) q237 ⟨Nat.le_of_ble_eq_true rfl, Nat.le_of_ble_eq_true rfl⟩ ⟨Nat.zero_le _, Nat.zero_le _⟩ hl.1 (Nat.le_of_ble_eq_true rfl) dX4_read_25 ?_
  refine c_if_ne (tgt := 41) hx hb dX4_read_28 (by decide) (fun hq => absurd kn0 hq) (fun _ => ?_)
  exact x_throw (cls := xIA) (text := "not a number") hx hb hst hml hown hts hT htb hP hS fitIA q163 q30 (by decide) (at_IA hts hT) gdIA hl.1 dX4_read_31 dX4_read_34 dX4_read_35 dX4_read_37 dX4_read_40 ⟨Nat.le_of_ble_eq_true rfl, Nat.le_of_ble_eq_true rfl⟩ ⟨Nat.le_of_ble_eq_true rfl, Nat.le_of_ble_eq_true rfl⟩ hlocks
def sX4_order (σ : St) (a : Int32) (k : Int32) : Int32 := ((zOrd σ) + (1 : Int32))
def tsX4_order (σ : St) (a : Int32) (k : Int32) : St := ((zCnt σ), (zNow σ), (zLst σ), (zGst σ), (zSwg σ), (zTrd σ), (upd (zCds σ) (zOrd σ).toNatClampNeg a), (upd (zOps σ) (zOrd σ).toNatClampNeg k), ((zOrd σ) + (1 : Int32)), (zRfs σ))
theorem nX4_order : yX4_order.cls ≠ "java/lang/invoke/MethodHandle" ∧ yX4_order.cls ≠ "java/lang/invoke/VarHandle" ∧ (parseMethodDescriptor yX4_order.desc).map (fun d => d.parameters.length) = some 2 := by decide +kernel
set_option maxHeartbeats 4000000 in
set_option maxRecDepth 100000 in
theorem m_X4_order (l : Launch) (D : va_G) (A : Nat → Prop) (cI cB : ClassId) (ra : Nat → Nat) (σ : St) (fr : va_W) (a : Int32) (k : Int32) (h1 : ¬ a < 0) (h2 : ¬ (12 : Int32) < a) (h3 : ¬ k < 0) (h4 : ¬ (sX4_greatestOperand a) < k) (h5 : zOrd σ < (12 : Int32)) (hI : vp_in (zOrd σ) 12) : IM l yX4_order cX4_order 3 (some .int) 2 [.ref (ra 0), .int a, .int k] (rPre D A cI cB (RW cI cB ra σ fr)) D A (some (.int (sX4_order σ a k))) (RW cI cB ra (tsX4_order σ a k) fr) := by
  refine Met.ofW (cc := cX4_order) (maxL := 3) (ret := (some .int)) (by decide) rfl ?_
  intro p e s m args below meth c s₁ B hml hv
  obtain ⟨rfl, hP, hK, hD, hA, hN, hT⟩ := hv
  have hx := B.exec
  have hb := B.bytes
  have hr := B.returns
  have hts : ∀ w ∈ AW, w.before _ s = true := fun w h => atoms_spec (ws := Cond.code yX4_order cX4_order 3 (some .int) :: AW) B.pre w (List.mem_cons_of_mem _ h)
  have hown : s.vm.findClass RX4 = some m.cls := findClass_of_methodNamed B.named
  have hlocks := B.notSynchronized
  have hS : va_S A s.heap s.heap [] := va_S.rf
  have hK0 := hK.sub (tys' := []) [] rfl
  have hl := lv_entry ([.ref (ra 0), .int a, .int k]) (n := 3) (Nat.le_of_ble_eq_true rfl)
  rw [lg_entry_eq]
  generalize (lg_sl ([.ref (ra 0), .int a, .int k]) ++ List.replicate (3 - (lg_sl ([.ref (ra 0), .int a, .int k])).length) Slot.unset).toArray = ls at hl ⊢
  have hl : lv_has ls 3 [(0, .ref (ra 0)), (1, .int a), (2, .int k)] := hl
  have kn0 : ¬ a < 0 := h1
  have kn1 : ¬ (12 : Int32) < a := h2
  have kn2 : ¬ k < 0 := h3
  have kn3 : ¬ (sX4_greatestOperand a) < k := h4
  have kn4 : (zOrd σ) < (12 : Int32) := h5
  refine lv_iload_n hx hb dX4_order_0 rfl (lv_at hl 1 rfl) ?_
  refine c_if_lt (tgt := 10) hx hb dX4_order_1 (by decide) (fun hq => absurd hq kn0) (fun _ => ?_)
  refine lv_iload_n hx hb dX4_order_4 rfl (lv_at hl 1 rfl) ?_
  refine lv_bipush (v := 12) hx hb dX4_order_5 (by decide) ?_
  refine c_icmp_le (tgt := 20) hx hb dX4_order_7 (by decide) (fun _ => ?_) (fun hq => absurd hq kn1)
  refine lv_iload_n hx hb dX4_order_20 rfl (lv_at hl 2 rfl) ?_
  refine c_if_lt (tgt := 32) hx hb dX4_order_21 (by decide) (fun hq => absurd hq kn2) (fun _ => ?_)
  refine lv_iload_n hx hb dX4_order_24 rfl (lv_at hl 2 rfl) ?_
  refine lv_iload_n hx hb dX4_order_25 rfl (lv_at hl 1 rfl) ?_
  refine p_S (rest := [.int k]) hx hb hml hown hts (m_X4_greatestOperand l a) q352 q353 q21 q354 nX4_greatestOperand ⟨Nat.le_of_ble_eq_true rfl, Nat.le_of_ble_eq_true rfl⟩ hl.1 rfl rfl (Nat.le_of_ble_eq_true rfl) dX4_order_26 ⟨Nat.zero_le _, Nat.zero_le _⟩ blind_c (fun _ _ _ => trivial) ?_
  refine c_icmp_le (tgt := 42) hx hb dX4_order_29 (by decide) (fun _ => ?_) (fun hq => absurd hq kn3)
  refine lv_aload_n hx hb dX4_order_42 rfl (lv_at hl 0 rfl) ?_
  refine va_get (v := .int (zOrd σ)) (C := RX4) (T := TX4) (N := 5) (ci := 4) hx hb hts inX4 hown hK hP 0 rfl rfl 3 (by decide) (hts _ q130) (fun _ h => h) rfl dX4_order_43 ?_
  refine lv_bipush (v := 12) hx hb dX4_order_46 (by decide) ?_
  refine c_icmp_lt (tgt := 61) hx hb dX4_order_48 (by decide) (fun _ => ?_) (fun hq => absurd kn4 hq)
  refine lv_aload_n hx hb dX4_order_61 rfl (lv_at hl 0 rfl) ?_
  refine va_get (v := .ref (ra 2)) (C := RX4) (T := TX4) (N := 5) (ci := 4) hx hb hts inX4 hown hK hP 0 rfl rfl 1 (by decide) (hts _ q128) (fun _ h => h) rfl dX4_order_62 ?_
  refine lv_aload_n hx hb dX4_order_65 rfl (lv_at hl 0 rfl) ?_
  refine va_get (v := .int (zOrd σ)) (C := RX4) (T := TX4) (N := 5) (ci := 4) hx hb hts inX4 hown hK hP 0 rfl rfl 3 (by decide) (hts _ q130) (fun _ h => h) rfl dX4_order_66 ?_
  refine lv_iload_n hx hb dX4_order_69 rfl (lv_at hl 1 rfl) ?_
  refine va_iast (f := (zCds σ)) hx hb hK hP hD hS 2 0 rfl rfl (hI) dX4_order_70 (fun H locs hP hD hS => ?_)
  have hP : va_P D vwCl (RW cI cB ra ((zCnt σ), (zNow σ), (zLst σ), (zGst σ), (zSwg σ), (zTrd σ), (upd (zCds σ) (zOrd σ).toNatClampNeg a), (zOps σ), (zOrd σ), (zRfs σ)) fr) H := hP
  have hD : va_D A (RW cI cB ra ((zCnt σ), (zNow σ), (zLst σ), (zGst σ), (zSwg σ), (zTrd σ), (upd (zCds σ) (zOrd σ).toNatClampNeg a), (zOps σ), (zOrd σ), (zRfs σ)) fr) := hD
  refine lv_aload_n hx hb dX4_order_71 rfl (lv_at hl 0 rfl) ?_
  refine va_get (v := .ref (ra 3)) (C := RX4) (T := TX4) (N := 5) (ci := 4) hx hb hts inX4 hown hK hP 0 rfl rfl 2 (by decide) (hts _ q129) (fun _ h => h) rfl dX4_order_72 ?_
  refine lv_aload_n hx hb dX4_order_75 rfl (lv_at hl 0 rfl) ?_
  refine va_get (v := .int (zOrd σ)) (C := RX4) (T := TX4) (N := 5) (ci := 4) hx hb hts inX4 hown hK hP 0 rfl rfl 3 (by decide) (hts _ q130) (fun _ h => h) rfl dX4_order_76 ?_
  refine lv_iload_n hx hb dX4_order_79 rfl (lv_at hl 2 rfl) ?_
  refine va_iast (f := (zOps σ)) hx hb hK hP hD hS 3 0 rfl rfl (hI) dX4_order_80 (fun H locs hP hD hS => ?_)
  have hP : va_P D vwCl (RW cI cB ra ((zCnt σ), (zNow σ), (zLst σ), (zGst σ), (zSwg σ), (zTrd σ), (upd (zCds σ) (zOrd σ).toNatClampNeg a), (upd (zOps σ) (zOrd σ).toNatClampNeg k), (zOrd σ), (zRfs σ)) fr) H := hP
  have hD : va_D A (RW cI cB ra ((zCnt σ), (zNow σ), (zLst σ), (zGst σ), (zSwg σ), (zTrd σ), (upd (zCds σ) (zOrd σ).toNatClampNeg a), (upd (zOps σ) (zOrd σ).toNatClampNeg k), (zOrd σ), (zRfs σ)) fr) := hD
  refine lv_aload_n hx hb dX4_order_81 rfl (lv_at hl 0 rfl) ?_
  refine lv_dup hx hb dX4_order_82 rfl ?_
  refine va_get (v := .int (zOrd σ)) (C := RX4) (T := TX4) (N := 5) (ci := 4) hx hb hts inX4 hown hK hP 0 rfl rfl 3 (by decide) (hts _ q130) (fun _ h => h) rfl dX4_order_83 ?_
  refine lv_iconst (v := 1) hx hb dX4_order_86 (by decide) ?_
  refine lv_iadd hx hb dX4_order_87 ?_
  refine va_put (C := RX4) (T := TX4) (N := 5) (ci := 4) (ty := .int) hx hb hts inX4 tyX4 tyX4_ok nmX4 hown hK hP hD hS 0 rfl rfl 3 (by decide) (hts _ q130) (fun _ h => h) rfl rfl rfl rfl (Nat.le_of_ble_eq_true rfl) dX4_order_88 (fun H locs hP hD hS => ?_)
  have hP : va_P D vwCl (RW cI cB ra ((zCnt σ), (zNow σ), (zLst σ), (zGst σ), (zSwg σ), (zTrd σ), (upd (zCds σ) (zOrd σ).toNatClampNeg a), (upd (zOps σ) (zOrd σ).toNatClampNeg k), ((zOrd σ) + (1 : Int32)), (zRfs σ)) fr) H := hP
  have hD : va_D A (RW cI cB ra ((zCnt σ), (zNow σ), (zLst σ), (zGst σ), (zSwg σ), (zTrd σ), (upd (zCds σ) (zOrd σ).toNatClampNeg a), (upd (zOps σ) (zOrd σ).toNatClampNeg k), ((zOrd σ) + (1 : Int32)), (zRfs σ)) fr) := hD
  refine lv_aload_n hx hb dX4_order_91 rfl (lv_at hl 0 rfl) ?_
  refine va_get (v := .int ((zOrd σ) + (1 : Int32))) (C := RX4) (T := TX4) (N := 5) (ci := 4) hx hb hts inX4 hown hK hP 0 rfl rfl 3 (by decide) (hts _ q130) (fun _ h => h) rfl dX4_order_92 ?_
  exact W.iret hx hb hr (fun t ht hW => ⟨rfl, (by rw [ht]; exact hP), hS.F ht⟩) hS.2.2 dX4_order_95
set_option maxHeartbeats 4000000 in
set_option maxRecDepth 100000 in
theorem x_X4_orderA (l : Launch) (D : va_G) (A : Nat → Prop) (cI cB : ClassId) (ra : Nat → Nat) (σ : St) (fr : va_W) (a : Int32) (k : Int32) (hst : l.stackTraces = false) (h1 : a < 0) : XM l yX4_order cX4_order 3 (some .int) 6 [.ref (ra 0), .int a, .int k] (rPre D A cI cB (RW cI cB ra σ fr)) xIA D A (RW cI cB ra σ fr) := by
  refine vx_ofW (cc := cX4_order) (maxL := 3) (ret := (some .int)) (by decide) rfl ?_
  intro p e s m args below meth c s₁ B hml htb hv
  obtain ⟨rfl, hP, hK, hD, hA, hN, hT⟩ := hv
  have hx := B.exec
  have hb := B.bytes
  have hr := B.returns
  have hts : ∀ w ∈ AW, w.before _ s = true := fun w h => atoms_spec (ws := Cond.code yX4_order cX4_order 3 (some .int) :: AW) B.pre w (List.mem_cons_of_mem _ h)
  have hown : s.vm.findClass RX4 = some m.cls := findClass_of_methodNamed B.named
  have hlocks := B.notSynchronized
  have hS : va_S A s.heap s.heap [] := va_S.rf
  have hK0 := hK.sub (tys' := []) [] rfl
  have hl := lv_entry ([.ref (ra 0), .int a, .int k]) (n := 3) (Nat.le_of_ble_eq_true rfl)
  rw [lg_entry_eq]
  generalize (lg_sl ([.ref (ra 0), .int a, .int k]) ++ List.replicate (3 - (lg_sl ([.ref (ra 0), .int a, .int k])).length) Slot.unset).toArray = ls at hl ⊢
  have hl : lv_has ls 3 [(0, .ref (ra 0)), (1, .int a), (2, .int k)] := hl
  have kn0 : a < 0 := h1
  refine lv_iload_n hx hb dX4_order_0 rfl (lv_at hl 1 rfl) ?_
  refine c_if_lt (tgt := 10) hx hb dX4_order_1 (by decide) (fun _ => ?_) (fun hq => absurd kn0 hq)
  exact x_throw (cls := xIA) (text := "no such order") hx hb hst hml hown hts hT htb hP hS fitIA q163 q30 (by decide) (at_IA hts hT) gdIA hl.1 dX4_order_10 dX4_order_13 dX4_order_14 dX4_order_16 dX4_order_19 ⟨Nat.le_of_ble_eq_true rfl, Nat.le_of_ble_eq_true rfl⟩ ⟨Nat.le_of_ble_eq_true rfl, Nat.le_of_ble_eq_true rfl⟩ hlocks
set_option maxHeartbeats 4000000 in
set_option maxRecDepth 100000 in
theorem x_X4_orderB (l : Launch) (D : va_G) (A : Nat → Prop) (cI cB : ClassId) (ra : Nat → Nat) (σ : St) (fr : va_W) (a : Int32) (k : Int32) (hst : l.stackTraces = false) (h1 : ¬ a < 0) (h2 : (12 : Int32) < a) : XM l yX4_order cX4_order 3 (some .int) 6 [.ref (ra 0), .int a, .int k] (rPre D A cI cB (RW cI cB ra σ fr)) xIA D A (RW cI cB ra σ fr) := by
  refine vx_ofW (cc := cX4_order) (maxL := 3) (ret := (some .int)) (by decide) rfl ?_
  intro p e s m args below meth c s₁ B hml htb hv
  obtain ⟨rfl, hP, hK, hD, hA, hN, hT⟩ := hv
  have hx := B.exec
  have hb := B.bytes
  have hr := B.returns
  have hts : ∀ w ∈ AW, w.before _ s = true := fun w h => atoms_spec (ws := Cond.code yX4_order cX4_order 3 (some .int) :: AW) B.pre w (List.mem_cons_of_mem _ h)
  have hown : s.vm.findClass RX4 = some m.cls := findClass_of_methodNamed B.named
  have hlocks := B.notSynchronized
  have hS : va_S A s.heap s.heap [] := va_S.rf
  have hK0 := hK.sub (tys' := []) [] rfl
  have hl := lv_entry ([.ref (ra 0), .int a, .int k]) (n := 3) (Nat.le_of_ble_eq_true rfl)
  rw [lg_entry_eq]
  generalize (lg_sl ([.ref (ra 0), .int a, .int k]) ++ List.replicate (3 - (lg_sl ([.ref (ra 0), .int a, .int k])).length) Slot.unset).toArray = ls at hl ⊢
  have hl : lv_has ls 3 [(0, .ref (ra 0)), (1, .int a), (2, .int k)] := hl
  have kn0 : ¬ a < 0 := h1
  have kn1 : (12 : Int32) < a := h2
  refine lv_iload_n hx hb dX4_order_0 rfl (lv_at hl 1 rfl) ?_
  refine c_if_lt (tgt := 10) hx hb dX4_order_1 (by decide) (fun hq => absurd hq kn0) (fun _ => ?_)
  refine lv_iload_n hx hb dX4_order_4 rfl (lv_at hl 1 rfl) ?_
  refine lv_bipush (v := 12) hx hb dX4_order_5 (by decide) ?_
  refine c_icmp_le (tgt := 20) hx hb dX4_order_7 (by decide) (fun hq => absurd kn1 hq) (fun _ => ?_)
  exact x_throw (cls := xIA) (text := "no such order") hx hb hst hml hown hts hT htb hP hS fitIA q163 q30 (by decide) (at_IA hts hT) gdIA hl.1 dX4_order_10 dX4_order_13 dX4_order_14 dX4_order_16 dX4_order_19 ⟨Nat.le_of_ble_eq_true rfl, Nat.le_of_ble_eq_true rfl⟩ ⟨Nat.le_of_ble_eq_true rfl, Nat.le_of_ble_eq_true rfl⟩ hlocks
set_option maxHeartbeats 4000000 in
set_option maxRecDepth 100000 in
theorem x_X4_orderC (l : Launch) (D : va_G) (A : Nat → Prop) (cI cB : ClassId) (ra : Nat → Nat) (σ : St) (fr : va_W) (a : Int32) (k : Int32) (hst : l.stackTraces = false) (h1 : ¬ a < 0) (h2 : ¬ (12 : Int32) < a) (h3 : k < 0) : XM l yX4_order cX4_order 3 (some .int) 6 [.ref (ra 0), .int a, .int k] (rPre D A cI cB (RW cI cB ra σ fr)) xIA D A (RW cI cB ra σ fr) := by
  refine vx_ofW (cc := cX4_order) (maxL := 3) (ret := (some .int)) (by decide) rfl ?_
  intro p e s m args below meth c s₁ B hml htb hv
  obtain ⟨rfl, hP, hK, hD, hA, hN, hT⟩ := hv
  have hx := B.exec
  have hb := B.bytes
  have hr := B.returns
  have hts : ∀ w ∈ AW, w.before _ s = true := fun w h => atoms_spec (ws := Cond.code yX4_order cX4_order 3 (some .int) :: AW) B.pre w (List.mem_cons_of_mem _ h)
  have hown : s.vm.findClass RX4 = some m.cls := findClass_of_methodNamed B.named
  have hlocks := B.notSynchronized
  have hS : va_S A s.heap s.heap [] := va_S.rf
  have hK0 := hK.sub (tys' := []) [] rfl
  have hl := lv_entry ([.ref (ra 0), .int a, .int k]) (n := 3) (Nat.le_of_ble_eq_true rfl)
  rw [lg_entry_eq]
  generalize (lg_sl ([.ref (ra 0), .int a, .int k]) ++ List.replicate (3 - (lg_sl ([.ref (ra 0), .int a, .int k])).length) Slot.unset).toArray = ls at hl ⊢
  have hl : lv_has ls 3 [(0, .ref (ra 0)), (1, .int a), (2, .int k)] := hl
  have kn0 : ¬ a < 0 := h1
  have kn1 : ¬ (12 : Int32) < a := h2
  have kn2 : k < 0 := h3
  refine lv_iload_n hx hb dX4_order_0 rfl (lv_at hl 1 rfl) ?_
  refine c_if_lt (tgt := 10) hx hb dX4_order_1 (by decide) (fun hq => absurd hq kn0) (fun _ => ?_)
  refine lv_iload_n hx hb dX4_order_4 rfl (lv_at hl 1 rfl) ?_
  refine lv_bipush (v := 12) hx hb dX4_order_5 (by decide) ?_
  refine c_icmp_le (tgt := 20) hx hb dX4_order_7 (by decide) (fun _ => ?_) (fun hq => absurd hq kn1)
  refine lv_iload_n hx hb dX4_order_20 rfl (lv_at hl 2 rfl) ?_
  refine c_if_lt (tgt := 32) hx hb dX4_order_21 (by decide) (fun _ => ?_) (fun hq => absurd kn2 hq)
  exact x_throw (cls := xIA) (text := "no such k for this order") hx hb hst hml hown hts hT htb hP hS fitIA q163 q30 (by decide) (at_IA hts hT) gdIA hl.1 dX4_order_32 dX4_order_35 dX4_order_36 dX4_order_38 dX4_order_41 ⟨Nat.le_of_ble_eq_true rfl, Nat.le_of_ble_eq_true rfl⟩ ⟨Nat.le_of_ble_eq_true rfl, Nat.le_of_ble_eq_true rfl⟩ hlocks
set_option maxHeartbeats 4000000 in
set_option maxRecDepth 100000 in
theorem x_X4_orderD (l : Launch) (D : va_G) (A : Nat → Prop) (cI cB : ClassId) (ra : Nat → Nat) (σ : St) (fr : va_W) (a : Int32) (k : Int32) (hst : l.stackTraces = false) (h1 : ¬ a < 0) (h2 : ¬ (12 : Int32) < a) (h3 : ¬ k < 0) (h4 : (sX4_greatestOperand a) < k) : XM l yX4_order cX4_order 3 (some .int) 6 [.ref (ra 0), .int a, .int k] (rPre D A cI cB (RW cI cB ra σ fr)) xIA D A (RW cI cB ra σ fr) := by
  refine vx_ofW (cc := cX4_order) (maxL := 3) (ret := (some .int)) (by decide) rfl ?_
  intro p e s m args below meth c s₁ B hml htb hv
  obtain ⟨rfl, hP, hK, hD, hA, hN, hT⟩ := hv
  have hx := B.exec
  have hb := B.bytes
  have hr := B.returns
  have hts : ∀ w ∈ AW, w.before _ s = true := fun w h => atoms_spec (ws := Cond.code yX4_order cX4_order 3 (some .int) :: AW) B.pre w (List.mem_cons_of_mem _ h)
  have hown : s.vm.findClass RX4 = some m.cls := findClass_of_methodNamed B.named
  have hlocks := B.notSynchronized
  have hS : va_S A s.heap s.heap [] := va_S.rf
  have hK0 := hK.sub (tys' := []) [] rfl
  have hl := lv_entry ([.ref (ra 0), .int a, .int k]) (n := 3) (Nat.le_of_ble_eq_true rfl)
  rw [lg_entry_eq]
  generalize (lg_sl ([.ref (ra 0), .int a, .int k]) ++ List.replicate (3 - (lg_sl ([.ref (ra 0), .int a, .int k])).length) Slot.unset).toArray = ls at hl ⊢
  have hl : lv_has ls 3 [(0, .ref (ra 0)), (1, .int a), (2, .int k)] := hl
  have kn0 : ¬ a < 0 := h1
  have kn1 : ¬ (12 : Int32) < a := h2
  have kn2 : ¬ k < 0 := h3
  have kn3 : (sX4_greatestOperand a) < k := h4
  refine lv_iload_n hx hb dX4_order_0 rfl (lv_at hl 1 rfl) ?_
  refine c_if_lt (tgt := 10) hx hb dX4_order_1 (by decide) (fun hq => absurd hq kn0) (fun _ => ?_)
  refine lv_iload_n hx hb dX4_order_4 rfl (lv_at hl 1 rfl) ?_
  refine lv_bipush (v := 12) hx hb dX4_order_5 (by decide) ?_
  refine c_icmp_le (tgt := 20) hx hb dX4_order_7 (by decide) (fun _ => ?_) (fun hq => absurd hq kn1)
  refine lv_iload_n hx hb dX4_order_20 rfl (lv_at hl 2 rfl) ?_
  refine c_if_lt (tgt := 32) hx hb dX4_order_21 (by decide) (fun hq => absurd hq kn2) (fun _ => ?_)
  refine lv_iload_n hx hb dX4_order_24 rfl (lv_at hl 2 rfl) ?_
  refine lv_iload_n hx hb dX4_order_25 rfl (lv_at hl 1 rfl) ?_
  refine p_S (rest := [.int k]) hx hb hml hown hts (m_X4_greatestOperand l a) q352 q353 q21 q354 nX4_greatestOperand ⟨Nat.le_of_ble_eq_true rfl, Nat.le_of_ble_eq_true rfl⟩ hl.1 rfl rfl (Nat.le_of_ble_eq_true rfl) dX4_order_26 ⟨Nat.zero_le _, Nat.zero_le _⟩ blind_c (fun _ _ _ => trivial) ?_
  refine c_icmp_le (tgt := 42) hx hb dX4_order_29 (by decide) (fun hq => absurd kn3 hq) (fun _ => ?_)
  exact x_throw (cls := xIA) (text := "no such k for this order") hx hb hst hml hown hts hT htb hP hS fitIA q163 q30 (by decide) (at_IA hts hT) gdIA hl.1 dX4_order_32 dX4_order_35 dX4_order_36 dX4_order_38 dX4_order_41 ⟨Nat.le_of_ble_eq_true rfl, Nat.le_of_ble_eq_true rfl⟩ ⟨Nat.le_of_ble_eq_true rfl, Nat.le_of_ble_eq_true rfl⟩ hlocks
set_option maxHeartbeats 4000000 in
set_option maxRecDepth 100000 in
theorem x_X4_orderE (l : Launch) (D : va_G) (A : Nat → Prop) (cI cB : ClassId) (ra : Nat → Nat) (σ : St) (fr : va_W) (a : Int32) (k : Int32) (hst : l.stackTraces = false) (h1 : ¬ a < 0) (h2 : ¬ (12 : Int32) < a) (h3 : ¬ k < 0) (h4 : ¬ (sX4_greatestOperand a) < k) (h5 : ¬ zOrd σ < (12 : Int32)) : XM l yX4_order cX4_order 3 (some .int) 6 [.ref (ra 0), .int a, .int k] (rPre D A cI cB (RW cI cB ra σ fr)) xIS D A (RW cI cB ra σ fr) := by
  refine vx_ofW (cc := cX4_order) (maxL := 3) (ret := (some .int)) (by decide) rfl ?_
  intro p e s m args below meth c s₁ B hml htb hv
  obtain ⟨rfl, hP, hK, hD, hA, hN, hT⟩ := hv
  have hx := B.exec
  have hb := B.bytes
  have hr := B.returns
  have hts : ∀ w ∈ AW, w.before _ s = true := fun w h => atoms_spec (ws := Cond.code yX4_order cX4_order 3 (some .int) :: AW) B.pre w (List.mem_cons_of_mem _ h)
  have hown : s.vm.findClass RX4 = some m.cls := findClass_of_methodNamed B.named
  have hlocks := B.notSynchronized
  have hS : va_S A s.heap s.heap [] := va_S.rf
  have hK0 := hK.sub (tys' := []) [] rfl
  have hl := lv_entry ([.ref (ra 0), .int a, .int k]) (n := 3) (Nat.le_of_ble_eq_true rfl)
  rw [lg_entry_eq]
  generalize (lg_sl ([.ref (ra 0), .int a, .int k]) ++ List.replicate (3 - (lg_sl ([.ref (ra 0), .int a, .int k])).length) Slot.unset).toArray = ls at hl ⊢
  have hl : lv_has ls 3 [(0, .ref (ra 0)), (1, .int a), (2, .int k)] := hl
  have kn0 : ¬ a < 0 := h1
  have kn1 : ¬ (12 : Int32) < a := h2
  have kn2 : ¬ k < 0 := h3
  have kn3 : ¬ (sX4_greatestOperand a) < k := h4
  have kn4 : ¬ (zOrd σ) < (12 : Int32) := h5
  refine lv_iload_n hx hb dX4_order_0 rfl (lv_at hl 1 rfl) ?_
  refine c_if_lt (tgt := 10) hx hb dX4_order_1 (by decide) (fun hq => absurd hq kn0) (fun _ => ?_)
  refine lv_iload_n hx hb dX4_order_4 rfl (lv_at hl 1 rfl) ?_
  refine lv_bipush (v := 12) hx hb dX4_order_5 (by decide) ?_
  refine c_icmp_le (tgt := 20) hx hb dX4_order_7 (by decide) (fun _ => ?_) (fun hq => absurd hq kn1)
  refine lv_iload_n hx hb dX4_order_20 rfl (lv_at hl 2 rfl) ?_
  refine c_if_lt (tgt := 32) hx hb dX4_order_21 (by decide) (fun hq => absurd hq kn2) (fun _ => ?_)
  refine lv_iload_n hx hb dX4_order_24 rfl (lv_at hl 2 rfl) ?_
  refine lv_iload_n hx hb dX4_order_25 rfl (lv_at hl 1 rfl) ?_
  refine p_S (rest := [.int k]) hx hb hml hown hts (m_X4_greatestOperand l a) q352 q353 q21 q354 nX4_greatestOperand ⟨Nat.le_of_ble_eq_true rfl, Nat.le_of_ble_eq_true rfl⟩ hl.1 rfl rfl (Nat.le_of_ble_eq_true rfl) dX4_order_26 ⟨Nat.zero_le _, Nat.zero_le _⟩ blind_c (fun _ _ _ => trivial) ?_
  refine c_icmp_le (tgt := 42) hx hb dX4_order_29 (by decide) (fun _ => ?_) (fun hq => absurd hq kn3)
  refine lv_aload_n hx hb dX4_order_42 rfl (lv_at hl 0 rfl) ?_
  refine va_get (v := .int (zOrd σ)) (C := RX4) (T := TX4) (N := 5) (ci := 4) hx hb hts inX4 hown hK hP 0 rfl rfl 3 (by decide) (hts _ q130) (fun _ h => h) rfl dX4_order_43 ?_
  refine lv_bipush (v := 12) hx hb dX4_order_46 (by decide) ?_
  refine c_icmp_lt (tgt := 61) hx hb dX4_order_48 (by decide) (fun hq => absurd hq kn4) (fun _ => ?_)
  exact x_throw (cls := xIS) (text := "the tape is full") hx hb hst hml hown hts hT htb hP hS fitIS q359 q33 (by decide) (at_IS hts hT) gdIS hl.1 dX4_order_51 dX4_order_54 dX4_order_55 dX4_order_57 dX4_order_60 ⟨Nat.le_of_ble_eq_true rfl, Nat.le_of_ble_eq_true rfl⟩ ⟨Nat.le_of_ble_eq_true rfl, Nat.le_of_ble_eq_true rfl⟩ hlocks
def sX4_wipe (σ : St) : Int32 := (zOrd σ)
def tsX4_wipe (σ : St) : St := ((zCnt σ), (zNow σ), (zLst σ), (zGst σ), (zSwg σ), (zTrd σ), (zCds σ), (zOps σ), (0 : Int32), (zRfs σ))
theorem nX4_wipe : yX4_wipe.cls ≠ "java/lang/invoke/MethodHandle" ∧ yX4_wipe.cls ≠ "java/lang/invoke/VarHandle" ∧ (parseMethodDescriptor yX4_wipe.desc).map (fun d => d.parameters.length) = some 0 := by decide +kernel
set_option maxHeartbeats 4000000 in
set_option maxRecDepth 100000 in
theorem m_X4_wipe (l : Launch) (D : va_G) (A : Nat → Prop) (cI cB : ClassId) (ra : Nat → Nat) (σ : St) (fr : va_W) : IM l yX4_wipe cX4_wipe 2 (some .int) 0 [.ref (ra 0)] (rPre D A cI cB (RW cI cB ra σ fr)) D A (some (.int (sX4_wipe σ))) (RW cI cB ra (tsX4_wipe σ) fr) := by
  refine Met.ofW (cc := cX4_wipe) (maxL := 2) (ret := (some .int)) (by decide) rfl ?_
  intro p e s m args below meth c s₁ B hml hv
  obtain ⟨rfl, hP, hK, hD, hA, hN, hT⟩ := hv
  have hx := B.exec
  have hb := B.bytes
  have hr := B.returns
  have hts : ∀ w ∈ AW, w.before _ s = true := fun w h => atoms_spec (ws := Cond.code yX4_wipe cX4_wipe 2 (some .int) :: AW) B.pre w (List.mem_cons_of_mem _ h)
  have hown : s.vm.findClass RX4 = some m.cls := findClass_of_methodNamed B.named
  have hlocks := B.notSynchronized
  have hS : va_S A s.heap s.heap [] := va_S.rf
  have hK0 := hK.sub (tys' := []) [] rfl
  have hl := lv_entry ([.ref (ra 0)]) (n := 2) (Nat.le_of_ble_eq_true rfl)
  rw [lg_entry_eq]
  generalize (lg_sl ([.ref (ra 0)]) ++ List.replicate (2 - (lg_sl ([.ref (ra 0)])).length) Slot.unset).toArray = ls at hl ⊢
  have hl : lv_has ls 2 [(0, .ref (ra 0))] := hl
  refine lv_aload_n hx hb dX4_wipe_0 rfl (lv_at hl 0 rfl) ?_
  refine va_get (v := .int (zOrd σ)) (C := RX4) (T := TX4) (N := 5) (ci := 4) hx hb hts inX4 hown hK hP 0 rfl rfl 3 (by decide) (hts _ q130) (fun _ h => h) rfl dX4_wipe_1 ?_
  refine lv_istore_n (lv' := [(1, .int (zOrd σ)), (0, .ref (ra 0))]) hx hb dX4_wipe_4 rfl hl (by decide) rfl (fun ls hl => ?_)
  refine lv_aload_n hx hb dX4_wipe_5 rfl (lv_at hl 1 rfl) ?_
  refine lv_iconst (v := 0) hx hb dX4_wipe_6 (by decide) ?_
  refine va_put (C := RX4) (T := TX4) (N := 5) (ci := 4) (ty := .int) hx hb hts inX4 tyX4 tyX4_ok nmX4 hown hK hP hD hS 0 rfl rfl 3 (by decide) (hts _ q130) (fun _ h => h) rfl rfl rfl rfl (Nat.le_of_ble_eq_true rfl) dX4_wipe_7 (fun H locs hP hD hS => ?_)
  have hP : va_P D vwCl (RW cI cB ra ((zCnt σ), (zNow σ), (zLst σ), (zGst σ), (zSwg σ), (zTrd σ), (zCds σ), (zOps σ), (0 : Int32), (zRfs σ)) fr) H := hP
  have hD : va_D A (RW cI cB ra ((zCnt σ), (zNow σ), (zLst σ), (zGst σ), (zSwg σ), (zTrd σ), (zCds σ), (zOps σ), (0 : Int32), (zRfs σ)) fr) := hD
  refine lv_iload_n hx hb dX4_wipe_10 rfl (lv_at hl 0 rfl) ?_
  exact W.iret hx hb hr (fun t ht hW => ⟨rfl, (by rw [ht]; exact hP), hS.F ht⟩) hS.2.2 dX4_wipe_11
def sX4_failed (σ : St) : Int32 := (zRfs σ)
theorem nX4_failed : yX4_failed.cls ≠ "java/lang/invoke/MethodHandle" ∧ yX4_failed.cls ≠ "java/lang/invoke/VarHandle" ∧ (parseMethodDescriptor yX4_failed.desc).map (fun d => d.parameters.length) = some 0 := by decide +kernel
set_option maxHeartbeats 4000000 in
set_option maxRecDepth 100000 in
theorem m_X4_failed (l : Launch) (D : va_G) (A : Nat → Prop) (cI cB : ClassId) (ra : Nat → Nat) (σ : St) (fr : va_W) : PM l yX4_failed cX4_failed 1 (some .int) 0 [.ref (ra 0)] (rPre D A cI cB (RW cI cB ra σ fr)) (.int (sX4_failed σ)) := by
  refine Met.ofW (cc := cX4_failed) (maxL := 1) (ret := (some .int)) (by decide) rfl ?_
  intro p e s m args below meth c s₁ B hml hv
  obtain ⟨rfl, hP, hK, hD, hA, hN, hT⟩ := hv
  have hx := B.exec
  have hb := B.bytes
  have hr := B.returns
  have hts : ∀ w ∈ AW, w.before _ s = true := fun w h => atoms_spec (ws := Cond.code yX4_failed cX4_failed 1 (some .int) :: AW) B.pre w (List.mem_cons_of_mem _ h)
  have hown : s.vm.findClass RX4 = some m.cls := findClass_of_methodNamed B.named
  have hlocks := B.notSynchronized
  have hS : va_S A s.heap s.heap [] := va_S.rf
  have hK0 := hK.sub (tys' := []) [] rfl
  have hl := lv_entry ([.ref (ra 0)]) (n := 1) (Nat.le_of_ble_eq_true rfl)
  rw [lg_entry_eq]
  generalize (lg_sl ([.ref (ra 0)]) ++ List.replicate (1 - (lg_sl ([.ref (ra 0)])).length) Slot.unset).toArray = ls at hl ⊢
  have hl : lv_has ls 1 [(0, .ref (ra 0))] := hl
  refine lv_aload_n hx hb dX4_failed_0 rfl (lv_at hl 0 rfl) ?_
  refine va_get (v := .int (zRfs σ)) (C := RX4) (T := TX4) (N := 5) (ci := 4) hx hb hts inX4 hown hK hP 0 rfl rfl 4 (by decide) (hts _ q131) (fun _ h => h) rfl dX4_failed_1 ?_
  exact W.iret hx hb hr (fun t ht hW => pq_i (rfl) ht) nil_free dX4_failed_4
def sX4_look0 (σ : St) (g : Int32) (k : Int32) : Int64 := (zCnt σ g.toNatClampNeg).toInt64
theorem nX4_look : yX4_look.cls ≠ "java/lang/invoke/MethodHandle" ∧ yX4_look.cls ≠ "java/lang/invoke/VarHandle" ∧ (parseMethodDescriptor yX4_look.desc).map (fun d => d.parameters.length) = some 2 := by decide +kernel
set_option maxHeartbeats 4000000 in
set_option maxRecDepth 100000 in
theorem m_X4_look0 (l : Launch) (D : va_G) (A : Nat → Prop) (cI cB : ClassId) (ra : Nat → Nat) (σ : St) (fr : va_W) (g : Int32) (k : Int32) (hg : vp_in g 16) (hk : k = (0 : Int32)) : PM l yX4_look cX4_look 4 (some .long) 1 [.ref (ra 0), .int g, .int k] (rPre D A cI cB (RW cI cB ra σ fr)) (.long (sX4_look0 σ g k)) := by
  refine Met.ofW (cc := cX4_look) (maxL := 4) (ret := (some .long)) (by decide) rfl ?_
  intro p e s m args below meth c s₁ B hml hv
  obtain ⟨rfl, hP, hK, hD, hA, hN, hT⟩ := hv
  have hx := B.exec
  have hb := B.bytes
  have hr := B.returns
  have hts : ∀ w ∈ AW, w.before _ s = true := fun w h => atoms_spec (ws := Cond.code yX4_look cX4_look 4 (some .long) :: AW) B.pre w (List.mem_cons_of_mem _ h)
  have hown : s.vm.findClass RX4 = some m.cls := findClass_of_methodNamed B.named
  have hlocks := B.notSynchronized
  have hS : va_S A s.heap s.heap [] := va_S.rf
  have hK0 := hK.sub (tys' := []) [] rfl
  have hl := lv_entry ([.ref (ra 0), .int g, .int k]) (n := 4) (Nat.le_of_ble_eq_true rfl)
  rw [lg_entry_eq]
  generalize (lg_sl ([.ref (ra 0), .int g, .int k]) ++ List.replicate (4 - (lg_sl ([.ref (ra 0), .int g, .int k])).length) Slot.unset).toArray = ls at hl ⊢
  have hl : lv_has ls 4 [(0, .ref (ra 0)), (1, .int g), (2, .int k)] := hl
  have kn0 : k = (0 : Int32) := hk
  refine lv_aload_n hx hb dX4_look_0 rfl (lv_at hl 0 rfl) ?_
  refine lv_iload_n hx hb dX4_look_1 rfl (lv_at hl 1 rfl) ?_
  refine p_V (C := RX4) (rest := []) hx hb hml hown hts (m_X4_balanceAt l D A cI cB ra σ fr g hg) q159 q161 q0 q21 q162 rfl nX4_balanceAt ⟨Nat.le_of_ble_eq_true rfl, Nat.le_of_ble_eq_true rfl⟩ hl.1 rfl rfl (Nat.le_of_ble_eq_true rfl) dX4_look_2 ⟨Nat.zero_le _, Nat.zero_le _⟩ rPre_bl (va_recv hK hP (ci := 4) (q0 := 0) rfl rfl) (rPre_go hP hK hD hA hN hT hS) ?_
  refine lv_astore_n (lv' := [(3, .ref (ra (4 + g.toNatClampNeg))), (0, .ref (ra 0)), (1, .int g), (2, .int k)]) hx hb dX4_look_5 rfl hl (by decide) rfl (fun ls hl => ?_)
  refine lv_iload_n hx hb dX4_look_6 rfl (lv_at hl 3 rfl) ?_
  refine lv_tableIn (off := 37) (tgt := 44) hx hb dX4_look_7 (by rw [kn0]; decide) (by rw [kn0]; decide) (by rw [kn0]; rfl) (by decide) ?_
  refine lv_aload_n hx hb dX4_look_44 rfl (lv_at hl 0 rfl) ?_
  refine va_get (v := .int (zCnt σ g.toNatClampNeg)) (C := RX0) (T := TX0) (N := 7) (ci := 1) hx hb hts inX0 hown hK hP (4 + g.toNatClampNeg) (rw_bal (vp_lt hg)) rfl 1 (by decide) (hts _ q101) (fun _ h => h) rfl dX4_look_45 ?_
  refine lv_i2l hx hb dX4_look_48 rfl ?_
  exact W.lret hx hb hr (fun t ht hW => pq_l (rfl) ht) nil_free dX4_look_49
def sX4_look1 (σ : St) (g : Int32) (k : Int32) : Int64 := (zNow σ g.toNatClampNeg)
set_option maxHeartbeats 4000000 in
set_option maxRecDepth 100000 in
theorem m_X4_look1 (l : Launch) (D : va_G) (A : Nat → Prop) (cI cB : ClassId) (ra : Nat → Nat) (σ : St) (fr : va_W) (g : Int32) (k : Int32) (hg : vp_in g 16) (hk : k = (1 : Int32)) : PM l yX4_look cX4_look 4 (some .long) 1 [.ref (ra 0), .int g, .int k] (rPre D A cI cB (RW cI cB ra σ fr)) (.long (sX4_look1 σ g k)) := by
  refine Met.ofW (cc := cX4_look) (maxL := 4) (ret := (some .long)) (by decide) rfl ?_
  intro p e s m args below meth c s₁ B hml hv
  obtain ⟨rfl, hP, hK, hD, hA, hN, hT⟩ := hv
  have hx := B.exec
  have hb := B.bytes
  have hr := B.returns
  have hts : ∀ w ∈ AW, w.before _ s = true := fun w h => atoms_spec (ws := Cond.code yX4_look cX4_look 4 (some .long) :: AW) B.pre w (List.mem_cons_of_mem _ h)
  have hown : s.vm.findClass RX4 = some m.cls := findClass_of_methodNamed B.named
  have hlocks := B.notSynchronized
  have hS : va_S A s.heap s.heap [] := va_S.rf
  have hK0 := hK.sub (tys' := []) [] rfl
  have hl := lv_entry ([.ref (ra 0), .int g, .int k]) (n := 4) (Nat.le_of_ble_eq_true rfl)
  rw [lg_entry_eq]
  generalize (lg_sl ([.ref (ra 0), .int g, .int k]) ++ List.replicate (4 - (lg_sl ([.ref (ra 0), .int g, .int k])).length) Slot.unset).toArray = ls at hl ⊢
  have hl : lv_has ls 4 [(0, .ref (ra 0)), (1, .int g), (2, .int k)] := hl
  have kn0 : ¬ k = (0 : Int32) := by rw [hk]; decide
  have kn1 : k = (1 : Int32) := hk
  refine lv_aload_n hx hb dX4_look_0 rfl (lv_at hl 0 rfl) ?_
  refine lv_iload_n hx hb dX4_look_1 rfl (lv_at hl 1 rfl) ?_
  refine p_V (C := RX4) (rest := []) hx hb hml hown hts (m_X4_balanceAt l D A cI cB ra σ fr g hg) q159 q161 q0 q21 q162 rfl nX4_balanceAt ⟨Nat.le_of_ble_eq_true rfl, Nat.le_of_ble_eq_true rfl⟩ hl.1 rfl rfl (Nat.le_of_ble_eq_true rfl) dX4_look_2 ⟨Nat.zero_le _, Nat.zero_le _⟩ rPre_bl (va_recv hK hP (ci := 4) (q0 := 0) rfl rfl) (rPre_go hP hK hD hA hN hT hS) ?_
  refine lv_astore_n (lv' := [(3, .ref (ra (4 + g.toNatClampNeg))), (0, .ref (ra 0)), (1, .int g), (2, .int k)]) hx hb dX4_look_5 rfl hl (by decide) rfl (fun ls hl => ?_)
  refine lv_iload_n hx hb dX4_look_6 rfl (lv_at hl 3 rfl) ?_
  refine lv_tableIn (off := 43) (tgt := 50) hx hb dX4_look_7 (by rw [kn1]; decide) (by rw [kn1]; decide) (by rw [kn1]; rfl) (by decide) ?_
  refine lv_aload_n hx hb dX4_look_50 rfl (lv_at hl 0 rfl) ?_
  refine va_get (v := .long (zNow σ g.toNatClampNeg)) (C := RX0) (T := TX0) (N := 7) (ci := 1) hx hb hts inX0 hown hK hP (4 + g.toNatClampNeg) (rw_bal (vp_lt hg)) rfl 2 (by decide) (hts _ q103) (fun _ h => h) rfl dX4_look_51 ?_
  exact W.lret hx hb hr (fun t ht hW => pq_l (rfl) ht) nil_free dX4_look_54
def sX4_look2 (σ : St) (g : Int32) (k : Int32) : Int64 := (zLst σ g.toNatClampNeg)
set_option maxHeartbeats 4000000 in
set_option maxRecDepth 100000 in
theorem m_X4_look2 (l : Launch) (D : va_G) (A : Nat → Prop) (cI cB : ClassId) (ra : Nat → Nat) (σ : St) (fr : va_W) (g : Int32) (k : Int32) (hg : vp_in g 16) (hk : k = (2 : Int32)) : PM l yX4_look cX4_look 4 (some .long) 1 [.ref (ra 0), .int g, .int k] (rPre D A cI cB (RW cI cB ra σ fr)) (.long (sX4_look2 σ g k)) := by
  refine Met.ofW (cc := cX4_look) (maxL := 4) (ret := (some .long)) (by decide) rfl ?_
  intro p e s m args below meth c s₁ B hml hv
  obtain ⟨rfl, hP, hK, hD, hA, hN, hT⟩ := hv
  have hx := B.exec
  have hb := B.bytes
  have hr := B.returns
  have hts : ∀ w ∈ AW, w.before _ s = true := fun w h => atoms_spec (ws := Cond.code yX4_look cX4_look 4 (some .long) :: AW) B.pre w (List.mem_cons_of_mem _ h)
  have hown : s.vm.findClass RX4 = some m.cls := findClass_of_methodNamed B.named
  have hlocks := B.notSynchronized
  have hS : va_S A s.heap s.heap [] := va_S.rf
  have hK0 := hK.sub (tys' := []) [] rfl
  have hl := lv_entry ([.ref (ra 0), .int g, .int k]) (n := 4) (Nat.le_of_ble_eq_true rfl)
  rw [lg_entry_eq]
  generalize (lg_sl ([.ref (ra 0), .int g, .int k]) ++ List.replicate (4 - (lg_sl ([.ref (ra 0), .int g, .int k])).length) Slot.unset).toArray = ls at hl ⊢
  have hl : lv_has ls 4 [(0, .ref (ra 0)), (1, .int g), (2, .int k)] := hl
  have kn0 : ¬ k = (0 : Int32) := by rw [hk]; decide
  have kn1 : ¬ k = (1 : Int32) := by rw [hk]; decide
  have kn2 : k = (2 : Int32) := hk
  refine lv_aload_n hx hb dX4_look_0 rfl (lv_at hl 0 rfl) ?_
  refine lv_iload_n hx hb dX4_look_1 rfl (lv_at hl 1 rfl) ?_
  refine p_V (C := RX4) (rest := []) hx hb hml hown hts (m_X4_balanceAt l D A cI cB ra σ fr g hg) q159 q161 q0 q21 q162 rfl nX4_balanceAt ⟨Nat.le_of_ble_eq_true rfl, Nat.le_of_ble_eq_true rfl⟩ hl.1 rfl rfl (Nat.le_of_ble_eq_true rfl) dX4_look_2 ⟨Nat.zero_le _, Nat.zero_le _⟩ rPre_bl (va_recv hK hP (ci := 4) (q0 := 0) rfl rfl) (rPre_go hP hK hD hA hN hT hS) ?_
  refine lv_astore_n (lv' := [(3, .ref (ra (4 + g.toNatClampNeg))), (0, .ref (ra 0)), (1, .int g), (2, .int k)]) hx hb dX4_look_5 rfl hl (by decide) rfl (fun ls hl => ?_)
  refine lv_iload_n hx hb dX4_look_6 rfl (lv_at hl 3 rfl) ?_
  refine lv_tableIn (off := 48) (tgt := 55) hx hb dX4_look_7 (by rw [kn2]; decide) (by rw [kn2]; decide) (by rw [kn2]; rfl) (by decide) ?_
  refine lv_aload_n hx hb dX4_look_55 rfl (lv_at hl 0 rfl) ?_
  refine va_get (v := .long (zLst σ g.toNatClampNeg)) (C := RX0) (T := TX0) (N := 7) (ci := 1) hx hb hts inX0 hown hK hP (4 + g.toNatClampNeg) (rw_bal (vp_lt hg)) rfl 3 (by decide) (hts _ q105) (fun _ h => h) rfl dX4_look_56 ?_
  exact W.lret hx hb hr (fun t ht hW => pq_l (rfl) ht) nil_free dX4_look_59
def sX4_look3 (σ : St) (g : Int32) (k : Int32) : Int64 := (zGst σ g.toNatClampNeg)
set_option maxHeartbeats 4000000 in
set_option maxRecDepth 100000 in
theorem m_X4_look3 (l : Launch) (D : va_G) (A : Nat → Prop) (cI cB : ClassId) (ra : Nat → Nat) (σ : St) (fr : va_W) (g : Int32) (k : Int32) (hg : vp_in g 16) (hk : k = (3 : Int32)) : PM l yX4_look cX4_look 4 (some .long) 1 [.ref (ra 0), .int g, .int k] (rPre D A cI cB (RW cI cB ra σ fr)) (.long (sX4_look3 σ g k)) := by
  refine Met.ofW (cc := cX4_look) (maxL := 4) (ret := (some .long)) (by decide) rfl ?_
  intro p e s m args below meth c s₁ B hml hv
  obtain ⟨rfl, hP, hK, hD, hA, hN, hT⟩ := hv
  have hx := B.exec
  have hb := B.bytes
  have hr := B.returns
  have hts : ∀ w ∈ AW, w.before _ s = true := fun w h => atoms_spec (ws := Cond.code yX4_look cX4_look 4 (some .long) :: AW) B.pre w (List.mem_cons_of_mem _ h)
  have hown : s.vm.findClass RX4 = some m.cls := findClass_of_methodNamed B.named
  have hlocks := B.notSynchronized
  have hS : va_S A s.heap s.heap [] := va_S.rf
  have hK0 := hK.sub (tys' := []) [] rfl
  have hl := lv_entry ([.ref (ra 0), .int g, .int k]) (n := 4) (Nat.le_of_ble_eq_true rfl)
  rw [lg_entry_eq]
  generalize (lg_sl ([.ref (ra 0), .int g, .int k]) ++ List.replicate (4 - (lg_sl ([.ref (ra 0), .int g, .int k])).length) Slot.unset).toArray = ls at hl ⊢
  have hl : lv_has ls 4 [(0, .ref (ra 0)), (1, .int g), (2, .int k)] := hl
  have kn0 : ¬ k = (0 : Int32) := by rw [hk]; decide
  have kn1 : ¬ k = (1 : Int32) := by rw [hk]; decide
  have kn2 : ¬ k = (2 : Int32) := by rw [hk]; decide
  have kn3 : k = (3 : Int32) := hk
  refine lv_aload_n hx hb dX4_look_0 rfl (lv_at hl 0 rfl) ?_
  refine lv_iload_n hx hb dX4_look_1 rfl (lv_at hl 1 rfl) ?_
  refine p_V (C := RX4) (rest := []) hx hb hml hown hts (m_X4_balanceAt l D A cI cB ra σ fr g hg) q159 q161 q0 q21 q162 rfl nX4_balanceAt ⟨Nat.le_of_ble_eq_true rfl, Nat.le_of_ble_eq_true rfl⟩ hl.1 rfl rfl (Nat.le_of_ble_eq_true rfl) dX4_look_2 ⟨Nat.zero_le _, Nat.zero_le _⟩ rPre_bl (va_recv hK hP (ci := 4) (q0 := 0) rfl rfl) (rPre_go hP hK hD hA hN hT hS) ?_
  refine lv_astore_n (lv' := [(3, .ref (ra (4 + g.toNatClampNeg))), (0, .ref (ra 0)), (1, .int g), (2, .int k)]) hx hb dX4_look_5 rfl hl (by decide) rfl (fun ls hl => ?_)
  refine lv_iload_n hx hb dX4_look_6 rfl (lv_at hl 3 rfl) ?_
  refine lv_tableIn (off := 53) (tgt := 60) hx hb dX4_look_7 (by rw [kn3]; decide) (by rw [kn3]; decide) (by rw [kn3]; rfl) (by decide) ?_
  refine lv_aload_n hx hb dX4_look_60 rfl (lv_at hl 0 rfl) ?_
  refine va_get (v := .long (zGst σ g.toNatClampNeg)) (C := RX0) (T := TX0) (N := 7) (ci := 1) hx hb hts inX0 hown hK hP (4 + g.toNatClampNeg) (rw_bal (vp_lt hg)) rfl 4 (by decide) (hts _ q107) (fun _ h => h) rfl dX4_look_61 ?_
  exact W.lret hx hb hr (fun t ht hW => pq_l (rfl) ht) nil_free dX4_look_64
def sX4_look4 (σ : St) (g : Int32) (k : Int32) : Int64 := (zSwg σ g.toNatClampNeg)
set_option maxHeartbeats 4000000 in
set_option maxRecDepth 100000 in
theorem m_X4_look4 (l : Launch) (D : va_G) (A : Nat → Prop) (cI cB : ClassId) (ra : Nat → Nat) (σ : St) (fr : va_W) (g : Int32) (k : Int32) (hg : vp_in g 16) (hk : k = (4 : Int32)) : PM l yX4_look cX4_look 4 (some .long) 1 [.ref (ra 0), .int g, .int k] (rPre D A cI cB (RW cI cB ra σ fr)) (.long (sX4_look4 σ g k)) := by
  refine Met.ofW (cc := cX4_look) (maxL := 4) (ret := (some .long)) (by decide) rfl ?_
  intro p e s m args below meth c s₁ B hml hv
  obtain ⟨rfl, hP, hK, hD, hA, hN, hT⟩ := hv
  have hx := B.exec
  have hb := B.bytes
  have hr := B.returns
  have hts : ∀ w ∈ AW, w.before _ s = true := fun w h => atoms_spec (ws := Cond.code yX4_look cX4_look 4 (some .long) :: AW) B.pre w (List.mem_cons_of_mem _ h)
  have hown : s.vm.findClass RX4 = some m.cls := findClass_of_methodNamed B.named
  have hlocks := B.notSynchronized
  have hS : va_S A s.heap s.heap [] := va_S.rf
  have hK0 := hK.sub (tys' := []) [] rfl
  have hl := lv_entry ([.ref (ra 0), .int g, .int k]) (n := 4) (Nat.le_of_ble_eq_true rfl)
  rw [lg_entry_eq]
  generalize (lg_sl ([.ref (ra 0), .int g, .int k]) ++ List.replicate (4 - (lg_sl ([.ref (ra 0), .int g, .int k])).length) Slot.unset).toArray = ls at hl ⊢
  have hl : lv_has ls 4 [(0, .ref (ra 0)), (1, .int g), (2, .int k)] := hl
  have kn0 : ¬ k = (0 : Int32) := by rw [hk]; decide
  have kn1 : ¬ k = (1 : Int32) := by rw [hk]; decide
  have kn2 : ¬ k = (2 : Int32) := by rw [hk]; decide
  have kn3 : ¬ k = (3 : Int32) := by rw [hk]; decide
  have kn4 : k = (4 : Int32) := hk
  refine lv_aload_n hx hb dX4_look_0 rfl (lv_at hl 0 rfl) ?_
  refine lv_iload_n hx hb dX4_look_1 rfl (lv_at hl 1 rfl) ?_
  refine p_V (C := RX4) (rest := []) hx hb hml hown hts (m_X4_balanceAt l D A cI cB ra σ fr g hg) q159 q161 q0 q21 q162 rfl nX4_balanceAt ⟨Nat.le_of_ble_eq_true rfl, Nat.le_of_ble_eq_true rfl⟩ hl.1 rfl rfl (Nat.le_of_ble_eq_true rfl) dX4_look_2 ⟨Nat.zero_le _, Nat.zero_le _⟩ rPre_bl (va_recv hK hP (ci := 4) (q0 := 0) rfl rfl) (rPre_go hP hK hD hA hN hT hS) ?_
  refine lv_astore_n (lv' := [(3, .ref (ra (4 + g.toNatClampNeg))), (0, .ref (ra 0)), (1, .int g), (2, .int k)]) hx hb dX4_look_5 rfl hl (by decide) rfl (fun ls hl => ?_)
  refine lv_iload_n hx hb dX4_look_6 rfl (lv_at hl 3 rfl) ?_
  refine lv_tableIn (off := 58) (tgt := 65) hx hb dX4_look_7 (by rw [kn4]; decide) (by rw [kn4]; decide) (by rw [kn4]; rfl) (by decide) ?_
  refine lv_aload_n hx hb dX4_look_65 rfl (lv_at hl 0 rfl) ?_
  refine va_get (v := .long (zSwg σ g.toNatClampNeg)) (C := RX0) (T := TX0) (N := 7) (ci := 1) hx hb hts inX0 hown hK hP (4 + g.toNatClampNeg) (rw_bal (vp_lt hg)) rfl 5 (by decide) (hts _ q109) (fun _ h => h) rfl dX4_look_66 ?_
  exact W.lret hx hb hr (fun t ht hW => pq_l (rfl) ht) nil_free dX4_look_69
def sX4_look5 (σ : St) (g : Int32) (k : Int32) : Int64 := (zTrd σ g.toNatClampNeg)
set_option maxHeartbeats 4000000 in
set_option maxRecDepth 100000 in
theorem m_X4_look5 (l : Launch) (D : va_G) (A : Nat → Prop) (cI cB : ClassId) (ra : Nat → Nat) (σ : St) (fr : va_W) (g : Int32) (k : Int32) (hg : vp_in g 16) (hk : k = (5 : Int32)) : PM l yX4_look cX4_look 4 (some .long) 1 [.ref (ra 0), .int g, .int k] (rPre D A cI cB (RW cI cB ra σ fr)) (.long (sX4_look5 σ g k)) := by
  refine Met.ofW (cc := cX4_look) (maxL := 4) (ret := (some .long)) (by decide) rfl ?_
  intro p e s m args below meth c s₁ B hml hv
  obtain ⟨rfl, hP, hK, hD, hA, hN, hT⟩ := hv
  have hx := B.exec
  have hb := B.bytes
  have hr := B.returns
  have hts : ∀ w ∈ AW, w.before _ s = true := fun w h => atoms_spec (ws := Cond.code yX4_look cX4_look 4 (some .long) :: AW) B.pre w (List.mem_cons_of_mem _ h)
  have hown : s.vm.findClass RX4 = some m.cls := findClass_of_methodNamed B.named
  have hlocks := B.notSynchronized
  have hS : va_S A s.heap s.heap [] := va_S.rf
  have hK0 := hK.sub (tys' := []) [] rfl
  have hl := lv_entry ([.ref (ra 0), .int g, .int k]) (n := 4) (Nat.le_of_ble_eq_true rfl)
  rw [lg_entry_eq]
  generalize (lg_sl ([.ref (ra 0), .int g, .int k]) ++ List.replicate (4 - (lg_sl ([.ref (ra 0), .int g, .int k])).length) Slot.unset).toArray = ls at hl ⊢
  have hl : lv_has ls 4 [(0, .ref (ra 0)), (1, .int g), (2, .int k)] := hl
  have kn0 : ¬ k = (0 : Int32) := by rw [hk]; decide
  have kn1 : ¬ k = (1 : Int32) := by rw [hk]; decide
  have kn2 : ¬ k = (2 : Int32) := by rw [hk]; decide
  have kn3 : ¬ k = (3 : Int32) := by rw [hk]; decide
  have kn4 : ¬ k = (4 : Int32) := by rw [hk]; decide
  have kn5 : k = (5 : Int32) := hk
  refine lv_aload_n hx hb dX4_look_0 rfl (lv_at hl 0 rfl) ?_
  refine lv_iload_n hx hb dX4_look_1 rfl (lv_at hl 1 rfl) ?_
  refine p_V (C := RX4) (rest := []) hx hb hml hown hts (m_X4_balanceAt l D A cI cB ra σ fr g hg) q159 q161 q0 q21 q162 rfl nX4_balanceAt ⟨Nat.le_of_ble_eq_true rfl, Nat.le_of_ble_eq_true rfl⟩ hl.1 rfl rfl (Nat.le_of_ble_eq_true rfl) dX4_look_2 ⟨Nat.zero_le _, Nat.zero_le _⟩ rPre_bl (va_recv hK hP (ci := 4) (q0 := 0) rfl rfl) (rPre_go hP hK hD hA hN hT hS) ?_
  refine lv_astore_n (lv' := [(3, .ref (ra (4 + g.toNatClampNeg))), (0, .ref (ra 0)), (1, .int g), (2, .int k)]) hx hb dX4_look_5 rfl hl (by decide) rfl (fun ls hl => ?_)
  refine lv_iload_n hx hb dX4_look_6 rfl (lv_at hl 3 rfl) ?_
  refine lv_tableIn (off := 63) (tgt := 70) hx hb dX4_look_7 (by rw [kn5]; decide) (by rw [kn5]; decide) (by rw [kn5]; rfl) (by decide) ?_
  refine lv_aload_n hx hb dX4_look_70 rfl (lv_at hl 0 rfl) ?_
  refine va_get (v := .long (zTrd σ g.toNatClampNeg)) (C := RX0) (T := TX0) (N := 7) (ci := 1) hx hb hts inX0 hown hK hP (4 + g.toNatClampNeg) (rw_bal (vp_lt hg)) rfl 6 (by decide) (hts _ q111) (fun _ h => h) rfl dX4_look_71 ?_
  exact W.lret hx hb hr (fun t ht hW => pq_l (rfl) ht) nil_free dX4_look_74
set_option maxHeartbeats 4000000 in
set_option maxRecDepth 100000 in
theorem x_X4_lookN (l : Launch) (D : va_G) (A : Nat → Prop) (cI cB : ClassId) (ra : Nat → Nat) (σ : St) (fr : va_W) (g : Int32) (k : Int32) (hst : l.stackTraces = false) (hg : ¬ vp_in g 16) : XM l yX4_look cX4_look 4 (some .long) 7 [.ref (ra 0), .int g, .int k] (rPre D A cI cB (RW cI cB ra σ fr)) xIA D A (RW cI cB ra σ fr) := by
  refine vx_ofW (cc := cX4_look) (maxL := 4) (ret := (some .long)) (by decide) rfl ?_
  intro p e s m args below meth c s₁ B hml htb hv
  obtain ⟨rfl, hP, hK, hD, hA, hN, hT⟩ := hv
  have hx := B.exec
  have hb := B.bytes
  have hr := B.returns
  have hts : ∀ w ∈ AW, w.before _ s = true := fun w h => atoms_spec (ws := Cond.code yX4_look cX4_look 4 (some .long) :: AW) B.pre w (List.mem_cons_of_mem _ h)
  have hown : s.vm.findClass RX4 = some m.cls := findClass_of_methodNamed B.named
  have hlocks := B.notSynchronized
  have hS : va_S A s.heap s.heap [] := va_S.rf
  have hK0 := hK.sub (tys' := []) [] rfl
  have hl := lv_entry ([.ref (ra 0), .int g, .int k]) (n := 4) (Nat.le_of_ble_eq_true rfl)
  rw [lg_entry_eq]
  generalize (lg_sl ([.ref (ra 0), .int g, .int k]) ++ List.replicate (4 - (lg_sl ([.ref (ra 0), .int g, .int k])).length) Slot.unset).toArray = ls at hl ⊢
  have hl : lv_has ls 4 [(0, .ref (ra 0)), (1, .int g), (2, .int k)] := hl
  refine lv_aload_n hx hb dX4_look_0 rfl (lv_at hl 0 rfl) ?_
  refine lv_iload_n hx hb dX4_look_1 rfl (lv_at hl 1 rfl) ?_
  exact x_out (C := RX4) (rest := []) hx hb hml hown hts htb (x_X4_balanceAtN l D A cI cB ra σ fr g hst hg) q159 q161 q0 q21 q162 rfl nX4_balanceAt ⟨Nat.le_of_ble_eq_true rfl, Nat.le_of_ble_eq_true rfl⟩ hl.1 rfl rfl (Nat.le_of_ble_eq_true rfl) dX4_look_2 ⟨Nat.le_of_ble_eq_true rfl, Nat.le_of_ble_eq_true rfl⟩ rPre_bl (va_recv hK hP (ci := 4) (q0 := 0) rfl rfl) (rPre_go hP hK hD hA hN hT hS) hS hlocks
set_option maxHeartbeats 4000000 in
set_option maxRecDepth 100000 in
theorem x_X4_lookX (l : Launch) (D : va_G) (A : Nat → Prop) (cI cB : ClassId) (ra : Nat → Nat) (σ : St) (fr : va_W) (g : Int32) (k : Int32) (hst : l.stackTraces = false) (hg : vp_in g 16) (hk0 : ¬ k = (0 : Int32)) (hk1 : ¬ k = (1 : Int32)) (hk2 : ¬ k = (2 : Int32)) (hk3 : ¬ k = (3 : Int32)) (hk4 : ¬ k = (4 : Int32)) (hk5 : ¬ k = (5 : Int32)) : XM l yX4_look cX4_look 4 (some .long) 7 [.ref (ra 0), .int g, .int k] (rPre D A cI cB (RW cI cB ra σ fr)) xIA D A (RW cI cB ra σ fr) := by
  refine vx_ofW (cc := cX4_look) (maxL := 4) (ret := (some .long)) (by decide) rfl ?_
  intro p e s m args below meth c s₁ B hml htb hv
  obtain ⟨rfl, hP, hK, hD, hA, hN, hT⟩ := hv
  have hx := B.exec
  have hb := B.bytes
  have hr := B.returns
  have hts : ∀ w ∈ AW, w.before _ s = true := fun w h => atoms_spec (ws := Cond.code yX4_look cX4_look 4 (some .long) :: AW) B.pre w (List.mem_cons_of_mem _ h)
  have hown : s.vm.findClass RX4 = some m.cls := findClass_of_methodNamed B.named
  have hlocks := B.notSynchronized
  have hS : va_S A s.heap s.heap [] := va_S.rf
  have hK0 := hK.sub (tys' := []) [] rfl
  have hl := lv_entry ([.ref (ra 0), .int g, .int k]) (n := 4) (Nat.le_of_ble_eq_true rfl)
  rw [lg_entry_eq]
  generalize (lg_sl ([.ref (ra 0), .int g, .int k]) ++ List.replicate (4 - (lg_sl ([.ref (ra 0), .int g, .int k])).length) Slot.unset).toArray = ls at hl ⊢
  have hl : lv_has ls 4 [(0, .ref (ra 0)), (1, .int g), (2, .int k)] := hl
  have kn0 : ¬ k = (0 : Int32) := hk0
  have kn1 : ¬ k = (1 : Int32) := hk1
  have kn2 : ¬ k = (2 : Int32) := hk2
  have kn3 : ¬ k = (3 : Int32) := hk3
  have kn4 : ¬ k = (4 : Int32) := hk4
  have kn5 : ¬ k = (5 : Int32) := hk5
  refine lv_aload_n hx hb dX4_look_0 rfl (lv_at hl 0 rfl) ?_
  refine lv_iload_n hx hb dX4_look_1 rfl (lv_at hl 1 rfl) ?_
  refine p_V (C := RX4) (rest := []) hx hb hml hown hts (m_X4_balanceAt l D A cI cB ra σ fr g hg) q159 q161 q0 q21 q162 rfl nX4_balanceAt ⟨Nat.le_of_ble_eq_true rfl, Nat.le_of_ble_eq_true rfl⟩ hl.1 rfl rfl (Nat.le_of_ble_eq_true rfl) dX4_look_2 ⟨Nat.zero_le _, Nat.zero_le _⟩ rPre_bl (va_recv hK hP (ci := 4) (q0 := 0) rfl rfl) (rPre_go hP hK hD hA hN hT hS) ?_
  refine lv_astore_n (lv' := [(3, .ref (ra (4 + g.toNatClampNeg))), (0, .ref (ra 0)), (1, .int g), (2, .int k)]) hx hb dX4_look_5 rfl hl (by decide) rfl (fun ls hl => ?_)
  refine lv_iload_n hx hb dX4_look_6 rfl (lv_at hl 3 rfl) ?_
  have kn0N := lv_neT (a := 0) kn0 (by decide)
  have kn1N := lv_neT (a := 1) kn1 (by decide)
  have kn2N := lv_neT (a := 2) kn2 (by decide)
  have kn3N := lv_neT (a := 3) kn3 (by decide)
  have kn4N := lv_neT (a := 4) kn4 (by decide)
  have kn5N := lv_neT (a := 5) kn5 (by decide)
  refine lv_tableOut (tgt := 75) hx hb dX4_look_7 (by omega) (by decide) ?_
  exact x_throw (cls := xIA) (text := "no such what") hx hb hst hml hown hts hT htb hP hS fitIA q163 q30 (by decide) (at_IA hts hT) gdIA hl.1 dX4_look_75 dX4_look_78 dX4_look_79 dX4_look_81 dX4_look_84 ⟨Nat.le_of_ble_eq_true rfl, Nat.le_of_ble_eq_true rfl⟩ ⟨Nat.le_of_ble_eq_true rfl, Nat.le_of_ble_eq_true rfl⟩ hlocks
def sX4_forget (σ : St) (g : Int32) : Int32 := (zCnt σ g.toNatClampNeg)
def tsX4_forget (σ : St) (g : Int32) : St := (zBal σ g.toNatClampNeg (rX0_clear_c (g.toNatClampNeg / 4) (zCnt σ g.toNatClampNeg) (zNow σ g.toNatClampNeg) (zLst σ g.toNatClampNeg) (zGst σ g.toNatClampNeg) (zSwg σ g.toNatClampNeg) (zTrd σ g.toNatClampNeg)) (rX0_clear_n (g.toNatClampNeg / 4) (zCnt σ g.toNatClampNeg) (zNow σ g.toNatClampNeg) (zLst σ g.toNatClampNeg) (zGst σ g.toNatClampNeg) (zSwg σ g.toNatClampNeg) (zTrd σ g.toNatClampNeg)) (rX0_clear_l (g.toNatClampNeg / 4) (zCnt σ g.toNatClampNeg) (zNow σ g.toNatClampNeg) (zLst σ g.toNatClampNeg) (zGst σ g.toNatClampNeg) (zSwg σ g.toNatClampNeg) (zTrd σ g.toNatClampNeg)) (rX0_clear_h (g.toNatClampNeg / 4) (zCnt σ g.toNatClampNeg) (zNow σ g.toNatClampNeg) (zLst σ g.toNatClampNeg) (zGst σ g.toNatClampNeg) (zSwg σ g.toNatClampNeg) (zTrd σ g.toNatClampNeg)) (rX0_clear_w (g.toNatClampNeg / 4) (zCnt σ g.toNatClampNeg) (zNow σ g.toNatClampNeg) (zLst σ g.toNatClampNeg) (zGst σ g.toNatClampNeg) (zSwg σ g.toNatClampNeg) (zTrd σ g.toNatClampNeg)) (rX0_clear_t (g.toNatClampNeg / 4) (zCnt σ g.toNatClampNeg) (zNow σ g.toNatClampNeg) (zLst σ g.toNatClampNeg) (zGst σ g.toNatClampNeg) (zSwg σ g.toNatClampNeg) (zTrd σ g.toNatClampNeg)))
theorem nX4_forget : yX4_forget.cls ≠ "java/lang/invoke/MethodHandle" ∧ yX4_forget.cls ≠ "java/lang/invoke/VarHandle" ∧ (parseMethodDescriptor yX4_forget.desc).map (fun d => d.parameters.length) = some 1 := by decide +kernel
set_option maxHeartbeats 4000000 in
set_option maxRecDepth 100000 in
theorem m_X4_forget (l : Launch) (D : va_G) (A : Nat → Prop) (cI cB : ClassId) (ra : Nat → Nat) (σ : St) (fr : va_W) (g : Int32) (hg : vp_in g 16) : IM l yX4_forget cX4_forget 4 (some .int) 1 [.ref (ra 0), .int g] (rPre D A cI cB (RW cI cB ra σ fr)) D A (some (.int (sX4_forget σ g))) (RW cI cB ra (tsX4_forget σ g) fr) := by
  refine Met.ofW (cc := cX4_forget) (maxL := 4) (ret := (some .int)) (by decide) rfl ?_
  intro p e s m args below meth c s₁ B hml hv
  obtain ⟨rfl, hP, hK, hD, hA, hN, hT⟩ := hv
  have hx := B.exec
  have hb := B.bytes
  have hr := B.returns
  have hts : ∀ w ∈ AW, w.before _ s = true := fun w h => atoms_spec (ws := Cond.code yX4_forget cX4_forget 4 (some .int) :: AW) B.pre w (List.mem_cons_of_mem _ h)
  have hown : s.vm.findClass RX4 = some m.cls := findClass_of_methodNamed B.named
  have hlocks := B.notSynchronized
  have hS : va_S A s.heap s.heap [] := va_S.rf
  have hK0 := hK.sub (tys' := []) [] rfl
  have hl := lv_entry ([.ref (ra 0), .int g]) (n := 4) (Nat.le_of_ble_eq_true rfl)
  rw [lg_entry_eq]
  generalize (lg_sl ([.ref (ra 0), .int g]) ++ List.replicate (4 - (lg_sl ([.ref (ra 0), .int g])).length) Slot.unset).toArray = ls at hl ⊢
  have hl : lv_has ls 4 [(0, .ref (ra 0)), (1, .int g)] := hl
  refine lv_aload_n hx hb dX4_forget_0 rfl (lv_at hl 0 rfl) ?_
  refine lv_iload_n hx hb dX4_forget_1 rfl (lv_at hl 1 rfl) ?_
  refine p_V (C := RX4) (rest := []) hx hb hml hown hts (m_X4_balanceAt l D A cI cB ra σ fr g hg) q159 q161 q0 q21 q162 rfl nX4_balanceAt ⟨Nat.le_of_ble_eq_true rfl, Nat.le_of_ble_eq_true rfl⟩ hl.1 rfl rfl (Nat.le_of_ble_eq_true rfl) dX4_forget_2 ⟨Nat.zero_le _, Nat.zero_le _⟩ rPre_bl (va_recv hK hP (ci := 4) (q0 := 0) rfl rfl) (rPre_go hP hK hD hA hN hT hS) ?_
  refine lv_astore_n (lv' := [(2, .ref (ra (4 + g.toNatClampNeg))), (0, .ref (ra 0)), (1, .int g)]) hx hb dX4_forget_5 rfl hl (by decide) rfl (fun ls hl => ?_)
  refine lv_aload_n hx hb dX4_forget_6 rfl (lv_at hl 0 rfl) ?_
  refine va_get (v := .int (zCnt σ g.toNatClampNeg)) (C := RX0) (T := TX0) (N := 7) (ci := 1) hx hb hts inX0 hown hK hP (4 + g.toNatClampNeg) (rw_bal (vp_lt hg)) rfl 1 (by decide) (hts _ q101) (fun _ h => h) rfl dX4_forget_7 ?_
  refine lv_istore_n (lv' := [(3, .int (zCnt σ g.toNatClampNeg)), (2, .ref (ra (4 + g.toNatClampNeg))), (0, .ref (ra 0)), (1, .int g)]) hx hb dX4_forget_10 rfl hl (by decide) rfl (fun ls hl => ?_)
  refine lv_aload_n hx hb dX4_forget_11 rfl (lv_at hl 1 rfl) ?_
  refine r_bal (g := g.toNatClampNeg) (rest := []) hx hb hml hown hts (m_X0_clear l D _ _ (g.toNatClampNeg / 4) (zCnt σ g.toNatClampNeg) (zNow σ g.toNatClampNeg) (zLst σ g.toNatClampNeg) (zGst σ g.toNatClampNeg) (zSwg σ g.toNatClampNeg) (zTrd σ g.toNatClampNeg)) q573 q574 q575 q25 q576 rfl nX0_clear ⟨Nat.le_of_ble_eq_true rfl, Nat.le_of_ble_eq_true rfl⟩ hl.1 rfl rfl (Nat.le_of_ble_eq_true rfl) dX4_forget_12 ⟨Nat.zero_le _, Nat.zero_le _⟩ (vp_lt hg) hP hK hD hA hS (fun H locs hP hD hS => ?_)
  refine lv_iload_n hx hb dX4_forget_15 rfl (lv_at hl 0 rfl) ?_
  exact W.iret hx hb hr (fun t ht hW => ⟨rfl, (by rw [ht]; exact hP), hS.F ht⟩) hS.2.2 dX4_forget_16
set_option maxHeartbeats 4000000 in
set_option maxRecDepth 100000 in
theorem x_X4_forgetN (l : Launch) (D : va_G) (A : Nat → Prop) (cI cB : ClassId) (ra : Nat → Nat) (σ : St) (fr : va_W) (g : Int32) (hst : l.stackTraces = false) (hg : ¬ vp_in g 16) : XM l yX4_forget cX4_forget 4 (some .int) 7 [.ref (ra 0), .int g] (rPre D A cI cB (RW cI cB ra σ fr)) xIA D A (RW cI cB ra σ fr) := by
  refine vx_ofW (cc := cX4_forget) (maxL := 4) (ret := (some .int)) (by decide) rfl ?_
  intro p e s m args below meth c s₁ B hml htb hv
  obtain ⟨rfl, hP, hK, hD, hA, hN, hT⟩ := hv
  have hx := B.exec
  have hb := B.bytes
  have hr := B.returns
  have hts : ∀ w ∈ AW, w.before _ s = true := fun w h => atoms_spec (ws := Cond.code yX4_forget cX4_forget 4 (some .int) :: AW) B.pre w (List.mem_cons_of_mem _ h)
  have hown : s.vm.findClass RX4 = some m.cls := findClass_of_methodNamed B.named
  have hlocks := B.notSynchronized
  have hS : va_S A s.heap s.heap [] := va_S.rf
  have hK0 := hK.sub (tys' := []) [] rfl
  have hl := lv_entry ([.ref (ra 0), .int g]) (n := 4) (Nat.le_of_ble_eq_true rfl)
  rw [lg_entry_eq]
  generalize (lg_sl ([.ref (ra 0), .int g]) ++ List.replicate (4 - (lg_sl ([.ref (ra 0), .int g])).length) Slot.unset).toArray = ls at hl ⊢
  have hl : lv_has ls 4 [(0, .ref (ra 0)), (1, .int g)] := hl
  refine lv_aload_n hx hb dX4_forget_0 rfl (lv_at hl 0 rfl) ?_
  refine lv_iload_n hx hb dX4_forget_1 rfl (lv_at hl 1 rfl) ?_
  exact x_out (C := RX4) (rest := []) hx hb hml hown hts htb (x_X4_balanceAtN l D A cI cB ra σ fr g hst hg) q159 q161 q0 q21 q162 rfl nX4_balanceAt ⟨Nat.le_of_ble_eq_true rfl, Nat.le_of_ble_eq_true rfl⟩ hl.1 rfl rfl (Nat.le_of_ble_eq_true rfl) dX4_forget_2 ⟨Nat.le_of_ble_eq_true rfl, Nat.le_of_ble_eq_true rfl⟩ rPre_bl (va_recv hK hP (ci := 4) (q0 := 0) rfl rfl) (rPre_go hP hK hD hA hN hT hS) hS hlocks
