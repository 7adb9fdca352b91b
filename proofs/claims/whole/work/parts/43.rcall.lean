/-- from the room: a method of balance g that changes it alone -/
theorem r_bal {p : Program} {l : Launch} {e : Env} {R : Room} {s : State} {m : MethodId} {args : Array Value} {below : List Frame} {meth : Method} {c : Code} {H H0 : Heap} {locs : List Loc} {cells slots : Nat} {Q : State → Prop}
    {pc : Nat} {ls : Array Slot} {rest st0 : List Value} {cc : ByteArray} {D : va_G} {A : Nat → Prop} {cI cB : ClassId} {ra : Nat → Nat} {σ : St} {fr : va_W} {g : Nat}
    {y : MethodName} {bytes : ByteArray} {maxL nL index n d : Nat} {ret : Option FieldType} {v : Option Value} {As : List Value} {c1 : Int32} {n1 l1 h1 w1 t1 : Int64}
    (hx : p.tables.exec = Jvm.exec) (hb : c.code = cc) (hml : c.maxLocals = nL) (hown : s.vm.findClass RX4 = some m.cls) (hts : ∀ w ∈ AW, w.before args s = true)
    (hM : IM l y bytes maxL ret d (.ref (ra (4 + g)) :: As) (bPre D (ra (4 + g)) (ra (20 + g / 4)) (g / 4) (zCnt σ g) (zNow σ g) (zLst σ g) (zGst σ g) (zSwg σ g) (zTrd σ g)) D (fun q => q = ra (4 + g)) v (balW (ra (4 + g)) (ra (20 + g / 4)) c1 n1 l1 h1 w1 t1))
    (q1 : Cond.methodLink RX4 index y ∈ AW) (q2 : Cond.instanceMethod y ∈ AW) (q3 : Cond.selects RX0 y y ∈ AW) (q5 : Cond.initialized RX0 ∈ AW) (q4 : Cond.code y bytes maxL ret ∈ AW) (hCy : y.cls = RX0)
    (hd : y.cls ≠ "java/lang/invoke/MethodHandle" ∧ y.cls ≠ "java/lang/invoke/VarHandle" ∧ (parseMethodDescriptor y.desc).map (fun d => d.parameters.length) = some n)
    (hR : d + 1 ≤ R.frames ∧ 8 + (maxL + 11) + 40 * d ≤ R.locals) (hls : ls.size = nL) (hst : st0 = As.reverse ++ .ref (ra (4 + g)) :: rest) (hn : As.length = n) (hW : (rest.map fun v => v.category).sum ≤ 8) (hdg : decode cc pc = .ok (.invokevirtual index, 3))
    (hC : cells ≤ R.cells ∧ slots ≤ R.slots) (hg : g < 16) (hP : va_P D vwCl (RW cI cB ra σ fr) H) (hK : va_K D vwCl (tyR cI cB) s) (hD : va_D A (RW cI cB ra σ fr)) (hA : absD s) (hS : va_S A H0 H locs)
    (kk : ∀ (H1 : Heap) (locs1 : List Loc), va_P D vwCl (RW cI cB ra (zBal σ g c1 n1 l1 h1 w1 t1) fr) H1 → va_D A (RW cI cB ra (zBal σ g c1 n1 l1 h1 w1 t1) fr) → va_S A H0 H1 locs1 → W p l e R s m args below meth c H1 locs1 cells slots Q (F0 m (pc + 3) ls (v.toList ++ rest))) : W p l e R s m args below meth c H locs cells slots Q (F0 m pc ls st0) := by
  have hb1 := rw_balP hP hg
  have hk4 : g / 4 < 4 := by omega
  have hne : ra (20 + g / 4) ≠ ra (4 + g) := fun h => by
    have h2 := hD.1 (20 + g / 4) (4 + g) _ _ (rw_so hk4) (rw_bal hg) h
    omega
  have hAg : A (ra (4 + g)) := hD.2 _ _ (rw_bal hg)
  have hK0 := hK.sub (tys' := []) [] rfl
  have hr := va_runV (As := As) (rest := rest) (Ts := AW) (C := RX0) (cells := cells) (slots := slots) (locs := locs) (e := e) (below := below) (meth := meth) (g := F0 m pc ls st0) ⟨hx, hb, hml, hown, hts⟩ hM
    (cwV n hts (aw_V q1 q2 q3 q5 q4) rfl rfl rfl ⟨hCy, hd⟩ hR)
    ⟨blind_va bPre_bl, va_recv hK hP (ci := 1) (q0 := 4 + g) rfl (rw_bal hg), fun U hU hW => ⟨rfl, by rw [hU]; exact hb1, va_K.moved hW.alike hK0, absD_warm hW hA, by rw [hU]; exact rw_soP hP hk4, hne, hk4⟩⟩ rfl hn hls hst (lv_room hW) hdg hC
  intro T hT X
  obtain ⟨v', st₀, t, T', L, h0, X', hL, e1, e2, ⟨hv, hP1, hF⟩, st⟩ := hr T hT X
  cases hv
  have hF2 : va_F A st₀ t := ⟨hF.1, fun q a b => hF.2 q a (fun z => b (by rw [z]; exact hAg))⟩
  have hP2 : va_P D vwCl (RW cI cB ra (zBal σ g c1 n1 l1 h1 w1 t1) fr) t.heap := by
    rw [← rw_set hg]
    exact va_P_one hP hD (rw_bal hg) (hP1 0 _ rfl) (fun q a b => by rw [← h0] at a ⊢; exact hF.2 q a b)
  obtain ⟨t2, a1, b1⟩ := kk t.heap (locs ++ L) hP2 (rw_D hD) (va_F_S h0 hS hF2 (fun q hq => by rw [show q.base = ra (4 + g) from hL q hq]; exact hAg)) T' e1 X'
  exact ⟨t2, st t2 a1, b1⟩
