/-! The law's helpers: what they stand on. -/
theorem met_ofWH {l : Launch} {y : MethodName} {ws ws' : List Cond} {rm : Room} {Pc : Array Value → State → Prop} {Qc : Array Value → State → Outcome → State → Prop} {mc ms : Nat} {free : Addr → Prop} {cc : ByteArray} {maxL : Nat} {ret : Option FieldType} {hh : List (Nat × Nat × Nat × Nat)}
    (hy : plainName y.cls = true) (hw : ws = Cond.codeWith y cc maxL ret hh :: ws')
    (body : ∀ p e s m args below meth c s₁, BodyLoose p l y (headSpec ws rm) cc maxL ret e s m args below meth c s₁ → c.maxLocals = maxL → c.exceptionTable.toList = tableOf hh → Pc args s →
      W p l e (headSpec ws rm).room s m args below meth c s.heap [] 0 0 (MQ below Qc args s mc ms free) (entryFrame m args maxL)) : Met l y ws rm Pc Qc mc ms free := by
  refine MetFree.of_bodyS (code := cc) (maxLocals := maxL) (ret := ret) hy ?_ ?_
  · intro args s m h hn
    obtain ⟨m9, meth, c, hn9, h1, h2, h3, h4, -, h5, h6, -⟩ := Cond.codeWith_spec (atoms_spec (ws := ws) h _ (by rw [hw]; exact List.mem_cons_self))
    cases hn.symm.trans hn9
    exact ⟨meth, c, h1, h2, h3, h4, h5, h6⟩
  · intro p e s m args below meth c s₁ B hml hP _
    have hh0 : s₁.heap = s.heap := by rw [B.state]; rfl
    obtain ⟨t, a1, o, b1, b2, b3⟩ := body p e s m args below meth c s₁ B hml (vx_table (x := y) B (atoms_spec (ws := ws) B.pre _ (by rw [hw]; exact List.mem_cons_self))) hP s₁ hh0 (Stand.of_body B)
    exact ⟨t, o, a1, b1, b2, ⟨b3.1, b3.2⟩⟩
abbrev tyL (cI cB cJ : ClassId) : List (ClassId × FieldType) := [(cI, .int), (cB, .object RX0), (cJ, .long)]
/-- none of the three exceptions is one of the others -/
def NX (U : State) : Prop := va_Nc xIS xIA U ∧ va_Nc xAR xIA U ∧ va_Nc xAR xIS U
theorem NX.moved {u U : State} (hvm : u.vm.Alike U.vm) (h : NX u) : NX U := ⟨va_Nc.moved hvm h.1, va_Nc.moved hvm h.2.1, va_Nc.moved hvm h.2.2⟩
/-- the world at a helper's call: the room's cells, the array 'out', the rest -/
abbrev LW (cI cB cJ : ClassId) (ra : Nat → Nat) (oa : Nat) (o : Nat → Int64) (σ : St) (fr : va_W) : va_W := RW cI cB ra σ ((oa, .inl (cJ, 1, .inr (.inl o))) :: fr)
def lPre (D : va_G) (A : Nat → Prop) (cI cB cJ : ClassId) (ws : va_W) (U : State) : Prop := va_P D vwCl ws U.heap ∧ va_K D vwCl (tyL cI cB cJ) U ∧ va_D A ws ∧ absD U ∧ (∀ q, U.heap.size ≤ q → A q) ∧ TK A U ∧ NX U
theorem lPre_bl {D : va_G} {A : Nat → Prop} {cI cB cJ : ClassId} {ws : va_W} : blindP (lPre D A cI cB cJ ws) := fun U g mk a q => ⟨q.1, va_K.moved (u := U) (U := U.calling g mk a) (Vm.Alike.refl U.vm) q.2.1, q.2.2.1, absD_calling q.2.2.2.1, q.2.2.2.2.1, TK_calling q.2.2.2.2.2.1, NX.moved (u := U) (U := U.calling g mk a) (Vm.Alike.refl U.vm) q.2.2.2.2.2.2⟩
theorem lPre_go {D : va_G} {A : Nat → Prop} {cI cB cJ : ClassId} {ws : va_W} {s : State} {H : Heap} {locs : List Loc} (hP : va_P D vwCl ws H) (hK : va_K D vwCl (tyL cI cB cJ) s) (hD : va_D A ws) (hA : absD s) (hN : ∀ q, s.heap.size ≤ q → A q) (hT : TK A s) (hX : NX s) (hS : va_S A s.heap H locs) : ∀ U : State, U.heap = H → s.WarmedH U.vm → lPre D A cI cB cJ ws U := fun U hU hW => ⟨by rw [hU]; exact hP, va_K.moved hW.alike hK, hD, absD_warm hW hA, fun q hq => hN q (Nat.le_trans hS.1 (by rw [← hU]; exact hq)), TK_go hS hU hW hT, NX.moved hW.alike hX⟩
abbrev LM (l : Launch) (y : MethodName) (b : ByteArray) (n : Nat) (hh : List (Nat × Nat × Nat × Nat)) (d : Nat) (As : List Value) (pre : State → Prop) (D : va_G) (A : Nat → Prop) (r : Int32) (ws' : va_W) : Prop :=
  Met l y (Cond.codeWith y b n (some .int) hh :: AW) (rlx d) (va_Pc As pre) (iq D A (some (.int r)) ws') 1 6 A
section XL
variable {p : Program} {l : Launch} {e : Env} {R : Room} {s : State} {m : MethodId} {args : Array Value} {below : List Frame} {meth : Method} {c : Code} {H : Heap} {locs : List Loc} {Q : State → Prop}
variable {pc : Nat} {ls : Array Slot} {rest st0 : List Value} {cc : ByteArray} {D : va_G} {A : Nat → Prop} {ws : va_W} {nL : Nat}
/-- a call of a method that throws, caught here -/
theorem x_in {E : String} {y : MethodName} {bytes : ByteArray} {maxL index n d : Nat} {ret : Option FieldType} {As : List Value} {own C : String} {b : Addr} {pre : State → Prop} {tgt : Nat}
    (hx : p.tables.exec = Jvm.exec) (hb : c.code = cc) (hml : c.maxLocals = nL) (hown : s.vm.findClass own = some m.cls) (hts : ∀ w ∈ AW, w.before args s = true)
    (hM : XM l y bytes maxL ret d (.ref b :: As) pre E D A ws) (h1 : Cond.methodLink own index y ∈ AW) (h2 : Cond.instanceMethod y ∈ AW) (h3 : Cond.selects C y y ∈ AW) (h5 : Cond.initialized C ∈ AW) (h4 : Cond.code y bytes maxL ret ∈ AW) (hCy : y.cls = C)
    (hd : y.cls ≠ "java/lang/invoke/MethodHandle" ∧ y.cls ≠ "java/lang/invoke/VarHandle" ∧ (parseMethodDescriptor y.desc).map (fun d => d.parameters.length) = some n)
    (hR : d + 1 ≤ R.frames ∧ 8 + (maxL + 11) + 40 * d ≤ R.locals) (hls : ls.size = nL) (hst : st0 = As.reverse ++ .ref b :: rest) (hn : As.length = n) (hW : (rest.map fun v => v.category).sum ≤ 8) (hdg : decode cc pc = .ok (.invokevirtual index, 3))
    (hC : 1 ≤ R.cells ∧ 6 ≤ R.slots) (hbl : blindP pre) (hrc : ∃ cellB : Cell, H[b]? = some cellB ∧ cellB.vm.isStatics = false ∧ s.vm.findClass C = some cellB.cls) (hp : ∀ U : State, U.heap = H → s.WarmedH U.vm → pre U) (hS : va_S A s.heap H locs)
    (pre0 : List ExceptionTableEntry) (x : ExceptionTableEntry) (suf : List ExceptionTableEntry) (hsplit : c.exceptionTable.toList = pre0 ++ x :: suf)
    (hpass : ∀ z ∈ pre0, covers z pc = false ∨ (z.catchType ≠ 0 ∧ ∃ nm : String, (Cond.classLink own z.catchType nm).before args s = true ∧ va_Nc E nm s)) (hcv : covers x pc = true) (h0 : x.catchType ≠ 0) (htg : x.handlerPc = tgt)
    (hlink : (Cond.classLink own x.catchType E).before args s = true) (hcast : (Cond.castable E E).before args s = true)
    (kk : ∀ (q : Addr) (H1 : Heap) (locs1 : List Loc), va_P D vwCl ws H1 → va_S A s.heap H1 locs1 → W p l e R s m args below meth c H1 locs1 1 6 Q (F0 m tgt ls [.ref q])) :
    W p l e R s m args below meth c H locs 0 0 Q (F0 m pc ls st0) := by
  have hr := vx_runV (As := As) (rest := rest) (Ts := AW) (C := C) (cells := 0) (slots := 0) (locs := locs) (e := e) (below := below) (meth := meth) (g := F0 m pc ls st0) ⟨hx, hb, hml, hown, hts⟩ hM
    (cwV n hts (aw_V h1 h2 h3 h5 h4) rfl rfl rfl ⟨hCy, hd⟩ hR)
    ⟨blind_va hbl, hrc, fun U hU hW => ⟨rfl, hp U hU hW⟩⟩ rfl hn hls hst (lv_room hW) hdg (by omega)
  intro T hT X
  rcases hr T hT X with ⟨v, st₀, t, T', L, h0', X', hL, e1, e2, hq, st⟩ | ⟨q, st₀, t, T', L, E', ce, h0', X', hL, e1, e2, ⟨rfl, hP, hF⟩, hce, hcv', hcl, st⟩
  · exact hq.elim
  · have hS1 := va_F_S h0' hS hF hL
    obtain ⟨t2, a1, b1⟩ := vx_catch (Q := Q) (ls := ls) (rest := rest) (pc := pc) (H := t.heap) (locs := locs ++ L) (cells := 0 + 1) (slots := 0 + 6) hown pre0 x suf hsplit hpass hcv h0 hlink hcast hce hcv' hcl (by rw [htg]; exact kk q t.heap (locs ++ L) hP hS1) T' e1 X'
    exact ⟨t2, st.trans a1, b1⟩
end XL
