/-! The law's own walk: what it stands on. -/
section LS
variable {p : Program} {l : Launch} {e : Env} {R : Room} {s : State} {m : MethodId} {args : Array Value} {below : List Frame} {meth : Method} {c : Code} {H H0 : Heap} {locs : List Loc} {cells slots : Nat} {Q : State → Prop}
variable {pc : Nat} {ls : Array Slot} {rest st0 : List Value} {cc : ByteArray} {D : va_G} {A : Nat → Prop} {ws' : va_W}
/-- a call of one of the law's helpers -/
theorem l_S {y : MethodName} {bytes : ByteArray} {maxL nL index n d : Nat} {hh : List (Nat × Nat × Nat × Nat)} {r : Int32} {As : List Value} {own : String} {pre : State → Prop}
    (hx : p.tables.exec = Jvm.exec) (hb : c.code = cc) (hml : c.maxLocals = nL) (hown : s.vm.findClass own = some m.cls) (hts : ∀ w ∈ AW, w.before args s = true)
    (hM : LM l y bytes maxL hh d As pre D A r ws') (h1 : Cond.methodLink own index y ∈ AW) (h2 : Cond.static y ∈ AW) (h3 : Cond.initialized y.cls ∈ AW) (h4 : Cond.codeWith y bytes maxL (some .int) hh ∈ AW)
    (hd : y.cls ≠ "java/lang/invoke/MethodHandle" ∧ y.cls ≠ "java/lang/invoke/VarHandle" ∧ (parseMethodDescriptor y.desc).map (fun d => d.parameters.length) = some n)
    (hR : d + 1 ≤ R.frames ∧ 8 + (maxL + 11) + 40 * d ≤ R.locals) (hls : ls.size = nL) (hst : st0 = As.reverse ++ rest) (hn : As.length = n) (hW : (rest.map fun v => v.category).sum ≤ 8) (hdg : decode cc pc = .ok (.invokestatic index, 3))
    (hC : cells + 1 ≤ R.cells ∧ slots + 6 ≤ R.slots) (hbl : blindP pre) (hp : ∀ U : State, U.heap = H → s.WarmedH U.vm → pre U) (hS : va_S A H0 H locs)
    (kk : ∀ (H1 : Heap) (locs1 : List Loc), va_P D vwCl ws' H1 → va_S A H0 H1 locs1 → W p l e R s m args below meth c H1 locs1 (cells + 1) (slots + 6) Q (F0 m (pc + 3) ls (.int r :: rest))) : W p l e R s m args below meth c H locs cells slots Q (F0 m pc ls st0) :=
  i_call (v := some (.int r)) (vx_runSW (As := As) (rest := rest) (Ts := AW) (bytes := bytes) (maxL := maxL) (ret := some .int) (hh := hh) (n := n) ⟨hx, hb, hml, hown, hts⟩ hM
    ⟨⟨rfl, rfl, hR.1, hR.2, pay_in hts (aw_in (aw_c h4)), List.mem_cons_self⟩, hts _ h4, hts _ h3, ⟨hd.1, hd.2.1⟩, fun sig h => by have h2 := hd.2.2; rw [h] at h2; exact (Option.some.inj h2).symm, hts _ h1, hts _ h2⟩
    ⟨blind_va hbl, fun U hU hW => ⟨rfl, hp U hU hW⟩⟩ rfl hn hls hst (lv_room hW) hdg hC) hS kk
end LS
/-- both worlds: the room's cells first, or the reference's -/
abbrev BW (cI cB cJ cI2 cJ2 : ClassId) (ra ma : Nat → Nat) (oa : Nat) (o : Nat → Int64) (th : Int32) (σ σ2 : St) : va_W := LW cI cB cJ ra oa o σ (MW cI2 cJ2 ma th σ2 [])
abbrev BM (cI cB cJ cI2 cJ2 : ClassId) (ra ma : Nat → Nat) (oa : Nat) (o : Nat → Int64) (th : Int32) (σ σ2 : St) : va_W := MW cI2 cJ2 ma th σ2 (LW cI cB cJ ra oa o σ [])
section SWAP
variable {D : va_G} {A : Nat → Prop} {H : Heap} {cI cB cJ cI2 cJ2 : ClassId} {ra ma : Nat → Nat} {oa : Nat} {o o' : Nat → Int64} {th th' : Int32} {σ σ' σ2 σ2' : St}
theorem bw_P (h : va_P D vwCl (BW cI cB cJ cI2 cJ2 ra ma oa o th σ σ2) H) : va_P D vwCl (BM cI cB cJ cI2 cJ2 ra ma oa o th σ σ2) H := h.sub [25, 26, 27, 28, 29, 30, 31, 32, 33, 0, 1, 2, 3, 4, 5, 6, 7, 8, 9, 10, 11, 12, 13, 14, 15, 16, 17, 18, 19, 20, 21, 22, 23, 24] rfl
theorem bm_P (h : va_P D vwCl (BM cI cB cJ cI2 cJ2 ra ma oa o th σ σ2) H) : va_P D vwCl (BW cI cB cJ cI2 cJ2 ra ma oa o th σ σ2) H := h.sub [9, 10, 11, 12, 13, 14, 15, 16, 17, 18, 19, 20, 21, 22, 23, 24, 25, 26, 27, 28, 29, 30, 31, 32, 33, 0, 1, 2, 3, 4, 5, 6, 7, 8] rfl
theorem bw_D (h : va_D A (BW cI cB cJ cI2 cJ2 ra ma oa o th σ σ2)) : va_D A (BM cI cB cJ cI2 cJ2 ra ma oa o' th' σ' σ2') := va_D_same (ws := BM cI cB cJ cI2 cJ2 ra ma oa o th σ σ2) rfl (h.sub [25, 26, 27, 28, 29, 30, 31, 32, 33, 0, 1, 2, 3, 4, 5, 6, 7, 8, 9, 10, 11, 12, 13, 14, 15, 16, 17, 18, 19, 20, 21, 22, 23, 24] (by decide) rfl)
theorem bm_D (h : va_D A (BM cI cB cJ cI2 cJ2 ra ma oa o th σ σ2)) : va_D A (BW cI cB cJ cI2 cJ2 ra ma oa o' th' σ' σ2') := va_D_same (ws := BW cI cB cJ cI2 cJ2 ra ma oa o th σ σ2) rfl (h.sub [9, 10, 11, 12, 13, 14, 15, 16, 17, 18, 19, 20, 21, 22, 23, 24, 25, 26, 27, 28, 29, 30, 31, 32, 33, 0, 1, 2, 3, 4, 5, 6, 7, 8] (by decide) rfl)
theorem bw_E (h : va_D A (BW cI cB cJ cI2 cJ2 ra ma oa o th σ σ2)) : va_D A (BW cI cB cJ cI2 cJ2 ra ma oa o' th' σ' σ2') := va_D_same (ws := BW cI cB cJ cI2 cJ2 ra ma oa o th σ σ2) rfl h
theorem bm_E (h : va_D A (BM cI cB cJ cI2 cJ2 ra ma oa o th σ σ2)) : va_D A (BM cI cB cJ cI2 cJ2 ra ma oa o' th' σ' σ2') := va_D_same (ws := BM cI cB cJ cI2 cJ2 ra ma oa o th σ σ2) rfl h
end SWAP
/-- what stays as it is all through the law -/
def LF (p : Program) (s : State) (m : MethodId) (meth : Method) (c : Code) (b L : Nat) (xs : Nat → Int32) (D : va_G) (A : Nat → Prop) (cI cB cJ cI2 cJ2 : ClassId) : Prop :=
  p.tables.exec = Jvm.exec ∧ c.code = cL_law ∧ meth.sig.returnType = ret ∧ c.maxLocals = 8 ∧ s.vm.findClass RL = some m.cls ∧ (∀ w ∈ AW, w.before #[Value.ref b] s = true) ∧ va_X b L xs s s.heap ∧ b < s.heap.size ∧ ¬ A b ∧ meth.locks = false ∧
  va_K D vwCl (tyL cI cB cJ) s ∧ va_K D vwCl (tyM cI2 cJ2) s ∧ absD s ∧ (∀ q, s.heap.size ≤ q → A q) ∧ TK A s ∧ NX s ∧ L ≤ 2048 ∧ (∀ q, A q → s.heap.size ≤ q)
abbrev lvL (b : Nat) (ra ma : Nat → Nat) (oa i : Nat) : List (Nat × Value) := [(0, .ref b), (1, .ref (ra 0)), (2, .ref (ma 0)), (3, .ref oa), (4, .int (nI i))]
theorem nI_k {i k L : Nat} (h : i + k < L) (hL : L ≤ 2048) (x : Int32) (hx : x = nI k) : vp_in (nI i + x) L := by
  rw [hx, nI_add]
  exact nI_in h (by omega)
theorem loop_cond {L i : Nat} (hL : L ≤ 2048) (hi : i ≤ 4096) : (Int32.ofNat L - 4 < nI i) ↔ L < i + 4 := by
  show (nI L - nI 4 < nI i) ↔ L < i + 4
  by_cases h : 4 ≤ L
  · rw [nI_sub h (by omega), nI_ltI (by omega) (by omega)]
    omega
  · have hall : ∀ L, L < 4 → (nI L - nI 4).toInt < 0 := by decide
    have h1 := hall L (by omega)
    rw [Int32.lt_iff_toInt_lt, nI_toInt (by omega)]
    omega
