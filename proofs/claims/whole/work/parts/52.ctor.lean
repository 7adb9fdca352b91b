/-! Constructors: one cell is filled. -/
def kPre (D : va_G) (h0 ci : Nat) (fs : List Value) (U : State) : Prop := va_P D vwCl [(h0, .inr (ci, fs))] U.heap ∧ va_K D vwCl [] U
theorem kPre_bl {D : va_G} {h0 ci : Nat} {fs : List Value} : blindP (kPre D h0 ci fs) := fun U g mk a q => ⟨q.1, va_K.moved (u := U) (U := U.calling g mk a) (Vm.Alike.refl U.vm) q.2⟩
theorem i_I {p : Program} {l : Launch} {e : Env} {R : Room} {s : State} {m : MethodId} {args : Array Value} {below : List Frame} {meth : Method} {c : Code} {H H0 : Heap} {locs : List Loc} {cells slots : Nat} {Q : State → Prop}
    {pc : Nat} {ls : Array Slot} {rest st0 : List Value} {cc : ByteArray} {D : va_G} {A : Nat → Prop} {ws : va_W} {tys : List (ClassId × FieldType)}
    {y : MethodName} {bytes : ByteArray} {maxL nL index n d pp ci b : Nat} {As : List Value} {own : String} {fs fs' : List Value}
    (hx : p.tables.exec = Jvm.exec) (hb : c.code = cc) (hml : c.maxLocals = nL) (hown : s.vm.findClass own = some m.cls) (hts : ∀ w ∈ AW, w.before args s = true)
    (hM : IM l y bytes maxL none d (.ref b :: As) (kPre D b ci fs) D (fun q => q = b) none [(b, .inr (ci, fs'))])
    (q1 : Cond.methodLink own index y ∈ AW) (q2 : Cond.instanceMethod y ∈ AW) (q5 : Cond.initialized y.cls ∈ AW) (q4 : Cond.code y bytes maxL none ∈ AW) (hy1 : y.name = "<init>")
    (hd : y.cls ≠ "java/lang/invoke/MethodHandle" ∧ y.cls ≠ "java/lang/invoke/VarHandle" ∧ (parseMethodDescriptor y.desc).map (fun d => d.parameters.length) = some n)
    (hR : d + 1 ≤ R.frames ∧ 8 + (maxL + 11) + 40 * d ≤ R.locals) (hls : ls.size = nL) (hst : st0 = As.reverse ++ .ref b :: rest) (hn : As.length = n) (hW : (rest.map fun v => v.category).sum ≤ 8) (hdg : decode cc pc = .ok (.invokespecial index, 3))
    (hC : cells ≤ R.cells ∧ slots ≤ R.slots) (hp : ws[pp]? = some (b, .inr (ci, fs))) (hP : va_P D vwCl ws H) (hK : va_K D vwCl tys s) (hD : va_D A ws) (hS : va_S A H0 H locs)
    (kk : ∀ (H1 : Heap) (locs1 : List Loc), va_P D vwCl (ws.set pp (b, .inr (ci, fs'))) H1 → va_D A (ws.set pp (b, .inr (ci, fs'))) → va_S A H0 H1 locs1 → W p l e R s m args below meth c H1 locs1 cells slots Q (F0 m (pc + 3) ls rest)) : W p l e R s m args below meth c H locs cells slots Q (F0 m pc ls st0) := by
  have hb1 : va_P D vwCl [(b, .inr (ci, fs))] H := fun i q hi => by
    rcases i with _ | i
    · cases hi; exact hP _ _ hp
    · cases hi
  have hAb : A b := hD.2 _ _ hp
  have hK0 := hK.sub (tys' := []) [] rfl
  have hr := va_runI (As := As) (rest := rest) (Ts := AW) (cells := cells) (slots := slots) (locs := locs) (e := e) (below := below) (meth := meth) (g := F0 m pc ls st0) ⟨hx, hb, hml, hown, hts⟩ hM
    (cwI n hts (aw_in (aw_c q4)) rfl rfl rfl (hts _ q5) (hts _ q1) (hts _ q2) hy1 hd hR)
    ⟨blind_va kPre_bl, fun U hU hW => ⟨rfl, by rw [hU]; exact hb1, va_K.moved hW.alike hK0⟩⟩ rfl hn hls hst (lv_room hW) hdg hC
  intro T hT X
  obtain ⟨v', st₀, t, T', L, h0, X', hL, e1, e2, ⟨hv, hP1, hF⟩, st⟩ := hr T hT X
  cases hv
  have hF2 : va_F A st₀ t := ⟨hF.1, fun q a z => hF.2 q a (fun w => z (by rw [w]; exact hAb))⟩
  have hP2 : va_P D vwCl (ws.set pp (b, .inr (ci, fs'))) t.heap := va_P_one hP hD hp (hP1 0 _ rfl) (fun q a z => by rw [← h0] at a ⊢; exact hF.2 q a z)
  obtain ⟨t2, a1, b1⟩ := kk t.heap (locs ++ L) hP2 (hD.set hp) (va_F_S h0 hS hF2 (fun q hq => by rw [show q.base = b from hL q hq]; exact hAb)) T' e1 X'
  exact ⟨t2, st t2 a1, b1⟩
/-- an array of references, seen by its places alone -/
theorem va_at_q {D : va_G} {cl : List vw_C} {a n : Nat} {cA : ClassId} {f f' : Nat → Option Nat} {H : Heap} (he : ∀ j, j < n → f j = f' j) (h : va_at D cl (a, .inl (cA, n, .inr (.inr (.inr (.inr f))))) H) : va_at D cl (a, .inl (cA, n, .inr (.inr (.inr (.inr f'))))) H := by
  have h1 : H[a]? = some (vp_cell cA (n, .inr (.inr (.inr (.inr f))))) := h
  show H[a]? = some (vp_cell cA (n, .inr (.inr (.inr (.inr f')))))
  rw [h1, vp_cell_q, vp_cell_q]
  unfold arrV
  congr 2
  apply Array.ext
  · simp
  · intro j h1 h2
    simp only [Array.getElem_ofFn]
    rw [he j (by simpa using h2)]
theorem ra_uni {U : State} {c1 c2 : ClassId} {ty : FieldType} (h1 : va_RA U c1 ty) (h2 : va_RA U c2 ty) : c1 = c2 := by
  cases ty with
  | object C =>
    obtain ⟨_, _, -, -, -, e1⟩ := h1
    obtain ⟨_, _, -, -, -, e2⟩ := h2
    exact Option.some.inj (e1.symm.trans e2)
  | _ => exact Option.some.inj (h1.symm.trans h2)
