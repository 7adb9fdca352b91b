/-- a method's end: nothing or a value, the heap as it was -/
def pqo (v : Option Value) : Array Value → State → Outcome → State → Prop := fun _ st oc t => oc = .returned v ∧ t.heap = st.heap
section PO
variable {p : Program} {l : Launch} {e : Env} {R : Room} {s : State} {m : MethodId} {args : Array Value} {below : List Frame} {meth : Method} {c : Code} {H : Heap} {locs : List Loc} {cells slots : Nat} {Q : State → Prop}
variable {pc : Nat} {ls : Array Slot} {rest st0 : List Value} {cc : ByteArray} {D : va_G} {A : Nat → Prop}
abbrev PMv (l : Launch) (y : MethodName) (b : ByteArray) (n : Nat) (ret : Option FieldType) (d : Nat) (As : List Value) (pre : State → Prop) : Prop :=
  Met l y (Cond.code y b n ret :: AW) (rl d) (va_Pc As pre) (pqo none) 0 0 (fun _ => False)
theorem p_Vv {y : MethodName} {bytes : ByteArray} {maxL nL index n d : Nat} {ret : Option FieldType} {As : List Value} {own C : String} {b : Addr} {pre : State → Prop}
    (hx : p.tables.exec = Jvm.exec) (hb : c.code = cc) (hml : c.maxLocals = nL) (hown : s.vm.findClass own = some m.cls) (hts : ∀ w ∈ AW, w.before args s = true)
    (hM : PMv l y bytes maxL ret d (.ref b :: As) pre) (h1 : Cond.methodLink own index y ∈ AW) (h2 : Cond.instanceMethod y ∈ AW) (h3 : Cond.selects C y y ∈ AW) (h5 : Cond.initialized C ∈ AW) (h4 : Cond.code y bytes maxL ret ∈ AW) (hCy : y.cls = C)
    (hd : y.cls ≠ "java/lang/invoke/MethodHandle" ∧ y.cls ≠ "java/lang/invoke/VarHandle" ∧ (parseMethodDescriptor y.desc).map (fun d => d.parameters.length) = some n)
    (hR : d + 1 ≤ R.frames ∧ 8 + (maxL + 11) + 40 * d ≤ R.locals) (hls : ls.size = nL) (hst : st0 = As.reverse ++ .ref b :: rest) (hn : As.length = n) (hW : (rest.map fun v => v.category).sum ≤ 8) (hdg : decode cc pc = .ok (.invokevirtual index, 3))
    (hC : cells ≤ R.cells ∧ slots ≤ R.slots) (hbl : blindP pre) (hrc : ∃ cellB : Cell, H[b]? = some cellB ∧ cellB.vm.isStatics = false ∧ s.vm.findClass C = some cellB.cls) (hp : ∀ U : State, U.heap = H → s.WarmedH U.vm → pre U)
    (kk : W p l e R s m args below meth c H locs cells slots Q (F0 m (pc + 3) ls rest)) : W p l e R s m args below meth c H locs cells slots Q (F0 m pc ls st0) := by
  have hr := va_runV (As := As) (rest := rest) (Ts := AW) (C := C) (cells := cells) (slots := slots) (locs := locs) (e := e) (below := below) (meth := meth) (g := F0 m pc ls st0) ⟨hx, hb, hml, hown, hts⟩ hM
    (cwV n hts (aw_V h1 h2 h3 h5 h4) rfl rfl rfl ⟨hCy, hd⟩ hR)
    ⟨blind_va hbl, hrc, fun U hU hW => ⟨rfl, hp U hU hW⟩⟩ rfl hn hls hst (lv_room hW) hdg hC
  intro T hT X
  obtain ⟨v', st₀, t, T', L, h0, X', hL, e1, e2, ⟨hv, hh⟩, st⟩ := hr T hT X
  cases hv
  have hLn : L = [] := by
    cases L with
    | nil => rfl
    | cons q r => exact absurd (hL q List.mem_cons_self) (fun h => h)
  subst hLn
  rw [List.append_nil] at X'
  obtain ⟨t2, a1, b1⟩ := kk T' (by rw [e1, hh, h0]) X'
  exact ⟨t2, st t2 a1, b1⟩
/-- a loop that changes the world: k falls -/
theorem i_loop {α : Type} {H0 : Heap} {J nL : Nat} {st : List Value} (lv : Nat → α → List (Nat × Value)) (ws : Nat → α → va_W) (I : Nat → α → Prop)
    (step : ∀ (k : Nat) (a : α) (ls : Array Slot) (H : Heap) (locs : List Loc), I k a → lv_has ls nL (lv k a) → va_P D vwCl (ws k a) H → va_S A H0 H locs → (∀ (k' : Nat) (a' : α) (ls' : Array Slot) (H' : Heap) (locs' : List Loc), k' < k → I k' a' → lv_has ls' nL (lv k' a') → va_P D vwCl (ws k' a') H' → va_S A H0 H' locs' → W p l e R s m args below meth c H' locs' cells slots Q (F0 m J ls' st)) → W p l e R s m args below meth c H locs cells slots Q (F0 m J ls st))
    (k0 : Nat) (a0 : α) (h0 : I k0 a0) (ls : Array Slot) (hl : lv_has ls nL (lv k0 a0)) (hP : va_P D vwCl (ws k0 a0) H) (hS : va_S A H0 H locs) : W p l e R s m args below meth c H locs cells slots Q (F0 m J ls st) := by
  have h : ∀ (n k : Nat) (a : α) (ls : Array Slot) (H : Heap) (locs : List Loc), k < n → I k a → lv_has ls nL (lv k a) → va_P D vwCl (ws k a) H → va_S A H0 H locs → W p l e R s m args below meth c H locs cells slots Q (F0 m J ls st) := by
    intro n
    induction n with
    | zero => intro k a ls H locs hk; omega
    | succ n ih => intro k a ls H locs hk hI hl hP hS; exact step k a ls H locs hI hl hP hS (fun k' a' ls' H' locs' hk' hI' hl' hP' hS' => ih k' a' ls' H' locs' (by omega) hI' hl' hP' hS')
  exact h (k0 + 1) k0 a0 ls H locs (by omega) h0 hl hP hS
end PO
