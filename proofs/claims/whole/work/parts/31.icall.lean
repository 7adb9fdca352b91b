/-! Calls of methods that change the world. -/
theorem va_F_S {A : Nat → Prop} {H0 H : Heap} {locs L : List Loc} {st t : State} (h0 : st.heap = H) (hS : va_S A H0 H locs) (hF : va_F A st t) (hL : ∀ q ∈ L, A q.base) : va_S A H0 t.heap (locs ++ L) := by
  obtain ⟨f1, f2⟩ := hF
  rw [h0] at f1 f2
  refine ⟨Nat.le_trans hS.1 f1, fun q h1 h2 => (f2 q (Nat.lt_of_lt_of_le h1 hS.1) h2).trans (hS.2.1 q h1 h2), fun q hq => ?_⟩
  rcases List.mem_append.mp hq with h | h
  · exact hS.2.2 q h
  · exact hL q h
section ICALL
variable {p : Program} {l : Launch} {e : Env} {R : Room} {s : State} {m : MethodId} {args : Array Value} {below : List Frame} {meth : Method} {c : Code} {H H0 : Heap} {locs : List Loc} {cells slots : Nat} {Q : State → Prop}
variable {pc : Nat} {ls : Array Slot} {rest st0 : List Value} {cc : ByteArray} {D : va_G} {A : Nat → Prop} {ws' : va_W}
theorem i_call {v : Option Value} {a : Array Value} {mc ms : Nat} (hr : va_Run p l e R s m args below meth c H locs cells slots mc ms (F0 m pc ls st0) rest (iq D A v ws' a) A) (hS : va_S A H0 H locs)
    (kk : ∀ (H1 : Heap) (locs1 : List Loc), va_P D vwCl ws' H1 → va_S A H0 H1 locs1 → W p l e R s m args below meth c H1 locs1 (cells + mc) (slots + ms) Q (F0 m (pc + 3) ls (v.toList ++ rest))) : W p l e R s m args below meth c H locs cells slots Q (F0 m pc ls st0) := by
  intro T hT X
  obtain ⟨v', st₀, t, T', L, h0, X', hL, e1, e2, ⟨hv, hP, hF⟩, st⟩ := hr T hT X
  cases hv
  obtain ⟨t2, a1, b1⟩ := kk t.heap (locs ++ L) hP (va_F_S h0 hS hF hL) T' e1 X'
  exact ⟨t2, st t2 a1, b1⟩
abbrev IM (l : Launch) (y : MethodName) (b : ByteArray) (n : Nat) (ret : Option FieldType) (d : Nat) (As : List Value) (pre : State → Prop) (D : va_G) (A : Nat → Prop) (v : Option Value) (ws' : va_W) : Prop :=
  Met l y (Cond.code y b n ret :: AW) (rl d) (va_Pc As pre) (iq D A v ws') 0 0 A
theorem i_V {y : MethodName} {bytes : ByteArray} {maxL nL index n d : Nat} {ret : Option FieldType} {v : Option Value} {As : List Value} {own C : String} {b : Addr} {pre : State → Prop}
    (hx : p.tables.exec = Jvm.exec) (hb : c.code = cc) (hml : c.maxLocals = nL) (hown : s.vm.findClass own = some m.cls) (hts : ∀ w ∈ AW, w.before args s = true)
    (hM : IM l y bytes maxL ret d (.ref b :: As) pre D A v ws') (h1 : Cond.methodLink own index y ∈ AW) (h2 : Cond.instanceMethod y ∈ AW) (h3 : Cond.selects C y y ∈ AW) (h5 : Cond.initialized C ∈ AW) (h4 : Cond.code y bytes maxL ret ∈ AW) (hCy : y.cls = C)
    (hd : y.cls ≠ "java/lang/invoke/MethodHandle" ∧ y.cls ≠ "java/lang/invoke/VarHandle" ∧ (parseMethodDescriptor y.desc).map (fun d => d.parameters.length) = some n)
    (hR : d + 1 ≤ R.frames ∧ 8 + (maxL + 11) + 40 * d ≤ R.locals) (hls : ls.size = nL) (hst : st0 = As.reverse ++ .ref b :: rest) (hn : As.length = n) (hW : (rest.map fun v => v.category).sum ≤ 8) (hdg : decode cc pc = .ok (.invokevirtual index, 3))
    (hC : cells ≤ R.cells ∧ slots ≤ R.slots) (hbl : blindP pre) (hrc : ∃ cellB : Cell, H[b]? = some cellB ∧ cellB.vm.isStatics = false ∧ s.vm.findClass C = some cellB.cls) (hp : ∀ U : State, U.heap = H → s.WarmedH U.vm → pre U) (hS : va_S A H0 H locs)
    (kk : ∀ (H1 : Heap) (locs1 : List Loc), va_P D vwCl ws' H1 → va_S A H0 H1 locs1 → W p l e R s m args below meth c H1 locs1 cells slots Q (F0 m (pc + 3) ls (v.toList ++ rest))) : W p l e R s m args below meth c H locs cells slots Q (F0 m pc ls st0) :=
  i_call (va_runV (As := As) (rest := rest) (Ts := AW) (C := C) ⟨hx, hb, hml, hown, hts⟩ hM
    (cwV n hts (aw_V h1 h2 h3 h5 h4) rfl rfl rfl ⟨hCy, hd⟩ hR)
    ⟨blind_va hbl, hrc, fun U hU hW => ⟨rfl, hp U hU hW⟩⟩ rfl hn hls hst (lv_room hW) hdg hC) hS kk
end ICALL
abbrev tyM (cI cJ : ClassId) : List (ClassId × FieldType) := [(cI, .int), (cJ, .long)]
/-- the reference's world at a call -/
def mPre (D : va_G) (A : Nat → Prop) (cI cJ : ClassId) (ws : va_W) (U : State) : Prop := va_P D vwCl ws U.heap ∧ va_K D vwCl (tyM cI cJ) U ∧ va_D A ws
theorem mPre_bl {D : va_G} {A : Nat → Prop} {cI cJ : ClassId} {ws : va_W} : blindP (mPre D A cI cJ ws) := fun U g mk a q => ⟨q.1, va_K.moved (u := U) (U := U.calling g mk a) (Vm.Alike.refl U.vm) q.2.1, q.2.2⟩
theorem mPre_go {D : va_G} {A : Nat → Prop} {cI cJ : ClassId} {ws : va_W} {s : State} {H : Heap} (hP : va_P D vwCl ws H) (hK : va_K D vwCl (tyM cI cJ) s) (hD : va_D A ws) : ∀ U : State, U.heap = H → s.WarmedH U.vm → mPre D A cI cJ ws U := fun U hU hW => ⟨by rw [hU]; exact hP, va_K.moved hW.alike hK, hD⟩
