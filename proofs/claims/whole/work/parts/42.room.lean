/-! What a throw needs beside the words: two statics of Throwable, that a thing of a class is one of it, the texts. -/
def xIA : String := "java/lang/IllegalArgumentException"
def xIS : String := "java/lang/IllegalStateException"
def xAR : String := "java/lang/ArithmeticException"
def xnames : List String := ["java/lang/RuntimeException", "java/lang/Exception"]
def exs : List String := [xIA, xIS, xAR]
def strs : List (Nat × String) := [(135, "no such balance"), (60, "not a number"), (69, "no such order"), (75, "no such k for this order"), (79, "the tape is full"), (94, "a balance without a reading"), (149, "an order's balance is of another sort or without a reading"), (157, "infinite ones with unlike signs do not meet"), (89, "balances of unlike sorts"), (113, "no such sort"), (130, "no such what")]
def xds : List MethodName := [Bundle.initS "java/lang/RuntimeException", Bundle.initS "java/lang/Exception", Bundle.initS Bundle.tN]
def TK (A : Nat → Prop) (U : State) : Prop := vx_Zq Bundle.tN "UNASSIGNED_STACK" Bundle.steD A U U.heap ∧ vx_Zq Bundle.tN "SUPPRESSED_SENTINEL" Bundle.listD A U U.heap ∧ (∀ E ∈ exs, va_Nw (.castable E E) U) ∧ (∀ q ∈ strs, ∃ sa : Nat, vk_R RX4 q.1 q.2 sa U) ∧ ∀ x ∈ xds, va_Nw (.declares x) U
theorem TK_calling {A : Nat → Prop} {U : State} {g : JFrame} {mk : MethodId} {a : Array Value} (h : TK A U) : TK A (U.calling g mk a) :=
  ⟨vx_Zq.moved (u := U) (U := U.calling g mk a) (Vm.Alike.refl U.vm) h.1, vx_Zq.moved (u := U) (U := U.calling g mk a) (Vm.Alike.refl U.vm) h.2.1, fun E hE => va_Nw.same rfl rfl (h.2.2.1 E hE), fun q hq => by obtain ⟨sa, h1⟩ := h.2.2.2.1 q hq; exact ⟨sa, vk_R.same (u := U) rfl h1⟩, fun x hx => va_Nw.same rfl rfl (h.2.2.2.2 x hx)⟩
theorem TK_go {A : Nat → Prop} {s U : State} {H : Heap} {locs : List Loc} (hS : va_S A s.heap H locs) (hU : U.heap = H) (hW : s.WarmedH U.vm) (h : TK A s) : TK A U :=
  ⟨by rw [hU]; exact vx_Zq.moved hW.alike (h.1.kept hS.2.1), by rw [hU]; exact vx_Zq.moved hW.alike (h.2.1.kept hS.2.1), fun E hE => va_Nw.warmC hW (h.2.2.1 E hE), fun q hq => by obtain ⟨sa, h1⟩ := h.2.2.2.1 q hq; exact ⟨sa, vk_R.warm hW h1⟩, fun x hx => va_Nw.warmD hW (h.2.2.2.2 x hx)⟩
theorem gIA : ∀ w ∈ (vx_atS RX4 62 xIA xnames).filter goodWord, w ∈ AW := aw_all (by decide +kernel)
theorem gIS : ∀ w ∈ (vx_atS RX4 81 xIS xnames).filter goodWord, w ∈ AW := aw_all (by decide +kernel)
theorem gAR : ∀ w ∈ (vx_atS RX4 159 xAR xnames).filter goodWord, w ∈ AW := aw_all (by decide +kernel)
theorem at_IA {A : Nat → Prop} {args : Array Value} {s : State} (hts : ∀ w ∈ AW, w.before args s = true) (hT : TK A s) : ∀ w ∈ vx_atS RX4 62 xIA xnames, w.before args s = true := vx_hat (B := [.castable xIA xIA, .declares (Bundle.initS "java/lang/RuntimeException"), .declares (Bundle.initS "java/lang/Exception"), .declares (Bundle.initS Bundle.tN)]) (fun w h => hts w (gIA w h)) (by decide +kernel) (vx_c (va_Nw.use rfl (hT.2.2.1 _ (by decide))) (vx_c (va_Nw.use rfl (hT.2.2.2.2 _ (by decide))) (vx_c (va_Nw.use rfl (hT.2.2.2.2 _ (by decide))) (vx_c (va_Nw.use rfl (hT.2.2.2.2 _ (by decide))) vx_n))))
theorem at_IS {A : Nat → Prop} {args : Array Value} {s : State} (hts : ∀ w ∈ AW, w.before args s = true) (hT : TK A s) : ∀ w ∈ vx_atS RX4 81 xIS xnames, w.before args s = true := vx_hat (B := [.castable xIS xIS, .declares (Bundle.initS "java/lang/RuntimeException"), .declares (Bundle.initS "java/lang/Exception"), .declares (Bundle.initS Bundle.tN)]) (fun w h => hts w (gIS w h)) (by decide +kernel) (vx_c (va_Nw.use rfl (hT.2.2.1 _ (by decide))) (vx_c (va_Nw.use rfl (hT.2.2.2.2 _ (by decide))) (vx_c (va_Nw.use rfl (hT.2.2.2.2 _ (by decide))) (vx_c (va_Nw.use rfl (hT.2.2.2.2 _ (by decide))) vx_n))))
theorem at_AR {A : Nat → Prop} {args : Array Value} {s : State} (hts : ∀ w ∈ AW, w.before args s = true) (hT : TK A s) : ∀ w ∈ vx_atS RX4 159 xAR xnames, w.before args s = true := vx_hat (B := [.castable xAR xAR, .declares (Bundle.initS "java/lang/RuntimeException"), .declares (Bundle.initS "java/lang/Exception"), .declares (Bundle.initS Bundle.tN)]) (fun w h => hts w (gAR w h)) (by decide +kernel) (vx_c (va_Nw.use rfl (hT.2.2.1 _ (by decide))) (vx_c (va_Nw.use rfl (hT.2.2.2.2 _ (by decide))) (vx_c (va_Nw.use rfl (hT.2.2.2.2 _ (by decide))) (vx_c (va_Nw.use rfl (hT.2.2.2.2 _ (by decide))) vx_n))))
theorem fi_xn : ∀ n ∈ xnames, Bundle.fit n = true := by decide +kernel
/-- a method's end: thrown, the world as ws says -/
def xq (E : String) (D : va_G) (A : Nat → Prop) (ws : va_W) : String → State → State → Prop := fun E' st t => E' = E ∧ va_P D vwCl ws t.heap ∧ va_F A st t
def noQ : Array Value → State → Outcome → State → Prop := fun _ _ _ _ => False
abbrev rlx (d : Nat) : Room := { frames := d, cells := 1, slots := 6, locals := 40 * d }
abbrev XM (l : Launch) (y : MethodName) (b : ByteArray) (n : Nat) (ret : Option FieldType) (d : Nat) (As : List Value) (pre : State → Prop) (E : String) (D : va_G) (A : Nat → Prop) (ws' : va_W) : Prop :=
  vx_Met l y (Cond.code y b n ret :: AW) (rlx d) (va_Pc As pre) noQ (xq E D A ws') 1 6 A
section XT
variable {p : Program} {l : Launch} {e : Env} {R : Room} {s : State} {m : MethodId} {args : Array Value} {below : List Frame} {meth : Method} {c : Code} {H : Heap} {locs : List Loc} {Q : State → Prop}
variable {pc : Nat} {ls : Array Slot} {rest st0 : List Value} {cc : ByteArray} {D : va_G} {A : Nat → Prop} {ws : va_W} {Qc : Array Value → State → Outcome → State → Prop} {nL : Nat}
theorem x_throw {cls text : String} {ik is ic : Nat} (hx : p.tables.exec = Jvm.exec) (hb : c.code = cc) (hst : l.stackTraces = false) (hml : c.maxLocals = nL) (hown : s.vm.findClass RX4 = some m.cls) (hts : ∀ w ∈ AW, w.before args s = true) (hT : TK A s) (htb : ∀ x ∈ c.exceptionTable.toList, False)
    (hP : va_P D vwCl ws H) (hS : va_S A s.heap H locs) (hfit : Bundle.fit cls = true) (hk : Cond.classLink RX4 ik cls ∈ AW) (hi : Cond.initialized cls ∈ AW) (hs : (is, text) ∈ strs) (hat : ∀ w ∈ vx_atS RX4 ic cls xnames, w.before args s = true) (hgd : ∀ w ∈ Cond.classLink RX4 ik cls :: Cond.initialized cls :: vx_atS RX4 ic cls xnames, vx_ot w = true)
    (hls : ls.size = nL) (d0 : decode cc pc = .ok (.new ik, 3)) (d3 : decode cc (pc + 3) = .ok (.dup, 1)) (d4 : decode cc (pc + 4) = .ok (.ldc is, 2)) (d6 : decode cc (pc + 6) = .ok (.invokespecial ic, 3)) (d9 : decode cc (pc + 9) = .ok (.athrow, 1))
    (hR : 6 ≤ R.frames ∧ (rest.map fun v => v.category).sum + 82 ≤ R.locals) (hC : 1 ≤ R.cells ∧ 6 ≤ R.slots) (hlocks : meth.locks = false) :
    W p l e R s m args below meth c H locs 0 0 (vx_MQ below Qc (xq cls D A ws) args s 1 6 A) (F0 m pc ls rest) := by
  obtain ⟨sa, hsa⟩ := hT.2.2.2.1 _ hs
  refine vx_throwS (A := A) (names := xnames) hx hb hst hown hfit fi_xn (hts _ hk) (hts _ hi) hsa hat hgd hT.1 hT.2.1 hS (hls.trans hml.symm) d0 d3 d4 d6 d9 (fun x hx => (htb x hx).elim) (show 2 + 3 < R.frames by omega) (show _ + (13 * (2 + 1) + 43) ≤ R.locals by omega) (by omega) (by omega) hlocks (fun t _ hz hk2 => ?_) hS.2.2 (Nat.le_refl _) (Nat.le_refl _)
  refine ⟨rfl, hP.kept (fun k q hq => hk2 _ (hP k q hq).lt), ⟨Nat.le_trans hS.1 hz, fun q h1 h2 => (hk2 q (Nat.lt_of_lt_of_le h1 hS.1)).trans (hS.2.1 q h1 h2)⟩⟩
/-- a call of a method that throws, not caught here -/
theorem x_out {E : String} {y : MethodName} {bytes : ByteArray} {maxL index n d : Nat} {ret : Option FieldType} {As : List Value} {own C : String} {b : Addr} {pre : State → Prop}
    (hx : p.tables.exec = Jvm.exec) (hb : c.code = cc) (hml : c.maxLocals = nL) (hown : s.vm.findClass own = some m.cls) (hts : ∀ w ∈ AW, w.before args s = true) (htb : ∀ x ∈ c.exceptionTable.toList, False)
    (hM : XM l y bytes maxL ret d (.ref b :: As) pre E D A ws) (h1 : Cond.methodLink own index y ∈ AW) (h2 : Cond.instanceMethod y ∈ AW) (h3 : Cond.selects C y y ∈ AW) (h5 : Cond.initialized C ∈ AW) (h4 : Cond.code y bytes maxL ret ∈ AW) (hCy : y.cls = C)
    (hd : y.cls ≠ "java/lang/invoke/MethodHandle" ∧ y.cls ≠ "java/lang/invoke/VarHandle" ∧ (parseMethodDescriptor y.desc).map (fun d => d.parameters.length) = some n)
    (hR : d + 1 ≤ R.frames ∧ 8 + (maxL + 11) + 40 * d ≤ R.locals) (hls : ls.size = nL) (hst : st0 = As.reverse ++ .ref b :: rest) (hn : As.length = n) (hW : (rest.map fun v => v.category).sum ≤ 8) (hdg : decode cc pc = .ok (.invokevirtual index, 3))
    (hC : 1 ≤ R.cells ∧ 6 ≤ R.slots) (hbl : blindP pre) (hrc : ∃ cellB : Cell, H[b]? = some cellB ∧ cellB.vm.isStatics = false ∧ s.vm.findClass C = some cellB.cls) (hp : ∀ U : State, U.heap = H → s.WarmedH U.vm → pre U) (hS : va_S A s.heap H locs) (hlocks : meth.locks = false) :
    W p l e R s m args below meth c H locs 0 0 (vx_MQ below Qc (xq E D A ws) args s 1 6 A) (F0 m pc ls st0) := by
  have hr := vx_runV (As := As) (rest := rest) (Ts := AW) (C := C) (cells := 0) (slots := 0) (locs := locs) (e := e) (below := below) (meth := meth) (g := F0 m pc ls st0) ⟨hx, hb, hml, hown, hts⟩ hM
    (cwV n hts (aw_V h1 h2 h3 h5 h4) rfl rfl rfl ⟨hCy, hd⟩ hR)
    ⟨blind_va hbl, hrc, fun U hU hW => ⟨rfl, hp U hU hW⟩⟩ rfl hn hls hst (lv_room hW) hdg (by omega)
  intro T hT X
  rcases hr T hT X with ⟨v, st₀, t, T', L, h0, X', hL, e1, e2, hq, st⟩ | ⟨q, st₀, t, T', L, E', ce, h0, X', hL, e1, e2, ⟨rfl, hP, hF⟩, hce, hcv, hcl, st⟩
  · exact hq.elim
  · have hS1 := va_F_S h0 hS hF hL
    obtain ⟨t2, a1, b1⟩ := vx_out (Qc := Qc) (XC := xq E' D A ws) (free := A) (mc := 1) (ms := 6) (ls := ls) (rest := rest) (pc := pc) (H := t.heap) (fun x hx => (htb x hx).elim) hlocks hce hcv hcl (fun t3 h3 _ => ⟨rfl, by rw [h3]; exact hP, hS1.F h3⟩) hS1.2.2 (Nat.le_refl _) (Nat.le_refl _) T' e1 X'
    exact ⟨t2, st.trans a1, b1⟩
end XT
abbrev tyR (cI cB : ClassId) : List (ClassId × FieldType) := [(cI, .int), (cB, .object RX0)]
/-- the class's world at a call -/
def rPre (D : va_G) (A : Nat → Prop) (cI cB : ClassId) (ws : va_W) (U : State) : Prop := va_P D vwCl ws U.heap ∧ va_K D vwCl (tyR cI cB) U ∧ va_D A ws ∧ absD U ∧ (∀ q, U.heap.size ≤ q → A q) ∧ TK A U
theorem rPre_bl {D : va_G} {A : Nat → Prop} {cI cB : ClassId} {ws : va_W} : blindP (rPre D A cI cB ws) := fun U g mk a q => ⟨q.1, va_K.moved (u := U) (U := U.calling g mk a) (Vm.Alike.refl U.vm) q.2.1, q.2.2.1, absD_calling q.2.2.2.1, q.2.2.2.2.1, TK_calling q.2.2.2.2.2⟩
theorem rPre_go {D : va_G} {A : Nat → Prop} {cI cB : ClassId} {ws : va_W} {s : State} {H : Heap} {locs : List Loc} (hP : va_P D vwCl ws H) (hK : va_K D vwCl (tyR cI cB) s) (hD : va_D A ws) (hA : absD s) (hN : ∀ q, s.heap.size ≤ q → A q) (hT : TK A s) (hS : va_S A s.heap H locs) : ∀ U : State, U.heap = H → s.WarmedH U.vm → rPre D A cI cB ws U := fun U hU hW => ⟨by rw [hU]; exact hP, va_K.moved hW.alike hK, hD, absD_warm hW hA, fun q hq => hN q (Nat.le_trans hS.1 (by rw [← hU]; exact hq)), TK_go hS hU hW hT⟩
theorem rw_soP {D : va_G} {cI cB : ClassId} {ra : Nat → Nat} {σ : St} {fr : va_W} {H : Heap} {k : Nat} (hP : va_P D vwCl (RW cI cB ra σ fr) H) (hk : k < 4) : va_P D vwCl [(ra (20 + k), .inr (soC k, soF k))] H := fun i q hi => by
  rcases i with _ | i
  · cases hi; exact hP _ _ (rw_so hk)
  · cases hi
theorem rw_balP {D : va_G} {cI cB : ClassId} {ra : Nat → Nat} {σ : St} {fr : va_W} {H : Heap} {g : Nat} (hP : va_P D vwCl (RW cI cB ra σ fr) H) (hg : g < 16) : va_P D vwCl (balW (ra (4 + g)) (ra (20 + g / 4)) (zCnt σ g) (zNow σ g) (zLst σ g) (zGst σ g) (zSwg σ g) (zTrd σ g)) H := fun i q hi => by
  rcases i with _ | i
  · cases hi; exact hP _ _ (rw_bal hg)
  · cases hi
theorem vp_lt {g : Int32} {n : Nat} (h : vp_in g n) : g.toNatClampNeg < n := Nat.not_le.mp fun q => h (Or.inr q)
