theorem lt16 {g : Int32} (h : vp_in g 16) : g < (16 : Int32) := by
  have h2 := (vp_in_iff.mp h).2
  exact Int32.lt_iff_toInt_lt.mpr h2
theorem nin {g : Int32} (h : ¬ vp_in g 16) (h0 : ¬ g < 0) : ¬ g < (16 : Int32) := fun h2 => h (by
  rw [vp_in_iff]
  have e1 : ¬ g.toInt < 0 := fun q => h0 (Int32.lt_iff_toInt_lt.mpr q)
  have e2 : g.toInt < 16 := Int32.lt_iff_toInt_lt.mp h2
  omega)
theorem fitIA : Bundle.fit xIA = true := by decide +kernel
theorem fitIS : Bundle.fit xIS = true := by decide +kernel
theorem fitAR : Bundle.fit xAR = true := by decide +kernel
theorem gdIA : ∀ w ∈ Cond.classLink RX4 58 xIA :: Cond.initialized xIA :: vx_atS RX4 62 xIA xnames, vx_ot w = true := by decide +kernel
theorem gdIS : ∀ w ∈ Cond.classLink RX4 77 xIS :: Cond.initialized xIS :: vx_atS RX4 81 xIS xnames, vx_ot w = true := by decide +kernel
theorem gdAR : ∀ w ∈ Cond.classLink RX4 155 xAR :: Cond.initialized xAR :: vx_atS RX4 159 xAR xnames, vx_ot w = true := by decide +kernel
def sX4_sortOf (g : Int32) : Int32 := (g / (4 : Int32))
theorem nX4_sortOf : yX4_sortOf.cls ≠ "java/lang/invoke/MethodHandle" ∧ yX4_sortOf.cls ≠ "java/lang/invoke/VarHandle" ∧ (parseMethodDescriptor yX4_sortOf.desc).map (fun d => d.parameters.length) = some 1 := by decide +kernel
set_option maxHeartbeats 4000000 in
set_option maxRecDepth 100000 in
theorem m_X4_sortOf (l : Launch) (g : Int32) : PM l yX4_sortOf cX4_sortOf 1 (some .int) 0 [.int g] (fun _ => True) (.int (sX4_sortOf g)) := by
  refine Met.ofW (cc := cX4_sortOf) (maxL := 1) (ret := (some .int)) (by decide) rfl ?_
  intro p e s m args below meth c s₁ B hml hv
  obtain ⟨rfl, -⟩ := hv
  have hx := B.exec
  have hb := B.bytes
  have hr := B.returns
  have hts : ∀ w ∈ AW, w.before _ s = true := fun w h => atoms_spec (ws := Cond.code yX4_sortOf cX4_sortOf 1 (some .int) :: AW) B.pre w (List.mem_cons_of_mem _ h)
  have hown : s.vm.findClass RX4 = some m.cls := findClass_of_methodNamed B.named
  have hlocks := B.notSynchronized
  have hl := lv_entry ([.int g]) (n := 1) (Nat.le_of_ble_eq_true rfl)
  rw [lg_entry_eq]
  generalize (lg_sl ([.int g]) ++ List.replicate (1 - (lg_sl ([.int g])).length) Slot.unset).toArray = ls at hl ⊢
  have hl : lv_has ls 1 [(0, .int g)] := hl
  refine lv_iload_n hx hb dX4_sortOf_0 rfl (lv_at hl 0 rfl) ?_
  refine lv_iconst (v := 4) hx hb dX4_sortOf_1 (by decide) ?_
  refine lv_idiv hx hb dX4_sortOf_2 (by decide) ?_
  exact W.iret hx hb hr (fun t ht hW => pq_i (rfl) ht) nil_free dX4_sortOf_3
def sX4_usesBalance (a : Int32) : Int32 := if a = (5 : Int32) then (1 : Int32) else if a = (6 : Int32) then (1 : Int32) else if a = (7 : Int32) then (1 : Int32) else if a = (9 : Int32) then (1 : Int32) else if a = (11 : Int32) then (1 : Int32) else (0 : Int32)
theorem nX4_usesBalance : yX4_usesBalance.cls ≠ "java/lang/invoke/MethodHandle" ∧ yX4_usesBalance.cls ≠ "java/lang/invoke/VarHandle" ∧ (parseMethodDescriptor yX4_usesBalance.desc).map (fun d => d.parameters.length) = some 1 := by decide +kernel
set_option maxHeartbeats 4000000 in
set_option maxRecDepth 100000 in
theorem m_X4_usesBalance (l : Launch) (a : Int32) : PM l yX4_usesBalance cX4_usesBalance 1 (some .boolean) 0 [.int a] (fun _ => True) (.int (sX4_usesBalance a)) := by
  refine Met.ofW (cc := cX4_usesBalance) (maxL := 1) (ret := (some .boolean)) (by decide) rfl ?_
  intro p e s m args below meth c s₁ B hml hv
  obtain ⟨rfl, -⟩ := hv
  have hx := B.exec
  have hb := B.bytes
  have hr := B.returns
  have hts : ∀ w ∈ AW, w.before _ s = true := fun w h => atoms_spec (ws := Cond.code yX4_usesBalance cX4_usesBalance 1 (some .boolean) :: AW) B.pre w (List.mem_cons_of_mem _ h)
  have hown : s.vm.findClass RX4 = some m.cls := findClass_of_methodNamed B.named
  have hlocks := B.notSynchronized
  have hl := lv_entry ([.int a]) (n := 1) (Nat.le_of_ble_eq_true rfl)
  rw [lg_entry_eq]
  generalize (lg_sl ([.int a]) ++ List.replicate (1 - (lg_sl ([.int a])).length) Slot.unset).toArray = ls at hl ⊢
  have hl : lv_has ls 1 [(0, .int a)] := hl
  refine lv_iload_n hx hb dX4_usesBalance_0 rfl (lv_at hl 0 rfl) ?_
  refine lv_iconst (v := 5) hx hb dX4_usesBalance_1 (by decide) ?_
  refine c_icmp_eq (tgt := 29) hx hb dX4_usesBalance_2 (by decide) (fun h1 => ?_) (fun h1 => ?_)
  · skip
    refine lv_iconst (v := 1) hx hb dX4_usesBalance_29 (by decide) ?_
    refine lv_goto (tgt := 34) hx hb dX4_usesBalance_30 (by decide) ?_
    exact W.zret (v := (1 : Int32)) hx hb hr rfl (fun t ht hW => pq_i (by rw [sX4_usesBalance, if_pos h1]) ht) nil_free dX4_usesBalance_34
  · skip
    refine lv_iload_n hx hb dX4_usesBalance_5 rfl (lv_at hl 0 rfl) ?_
    refine lv_bipush (v := 6) hx hb dX4_usesBalance_6 (by decide) ?_
    refine c_icmp_eq (tgt := 29) hx hb dX4_usesBalance_8 (by decide) (fun h2 => ?_) (fun h2 => ?_)
    · skip
      refine lv_iconst (v := 1) hx hb dX4_usesBalance_29 (by decide) ?_
      refine lv_goto (tgt := 34) hx hb dX4_usesBalance_30 (by decide) ?_
      exact W.zret (v := (1 : Int32)) hx hb hr rfl (fun t ht hW => pq_i (by rw [sX4_usesBalance, if_neg h1, if_pos h2]) ht) nil_free dX4_usesBalance_34
    · skip
      refine lv_iload_n hx hb dX4_usesBalance_11 rfl (lv_at hl 0 rfl) ?_
      refine lv_bipush (v := 7) hx hb dX4_usesBalance_12 (by decide) ?_
      refine c_icmp_eq (tgt := 29) hx hb dX4_usesBalance_14 (by decide) (fun h3 => ?_) (fun h3 => ?_)
      · skip
        refine lv_iconst (v := 1) hx hb dX4_usesBalance_29 (by decide) ?_
        refine lv_goto (tgt := 34) hx hb dX4_usesBalance_30 (by decide) ?_
        exact W.zret (v := (1 : Int32)) hx hb hr rfl (fun t ht hW => pq_i (by rw [sX4_usesBalance, if_neg h1, if_neg h2, if_pos h3]) ht) nil_free dX4_usesBalance_34
      · skip
        refine lv_iload_n hx hb dX4_usesBalance_17 rfl (lv_at hl 0 rfl) ?_
        refine lv_bipush (v := 9) hx hb dX4_usesBalance_18 (by decide) ?_
        refine c_icmp_eq (tgt := 29) hx hb dX4_usesBalance_20 (by decide) (fun h4 => ?_) (fun h4 => ?_)
        · skip
          refine lv_iconst (v := 1) hx hb dX4_usesBalance_29 (by decide) ?_
          refine lv_goto (tgt := 34) hx hb dX4_usesBalance_30 (by decide) ?_
          exact W.zret (v := (1 : Int32)) hx hb hr rfl (fun t ht hW => pq_i (by rw [sX4_usesBalance, if_neg h1, if_neg h2, if_neg h3, if_pos h4]) ht) nil_free dX4_usesBalance_34
        · skip
          refine lv_iload_n hx hb dX4_usesBalance_23 rfl (lv_at hl 0 rfl) ?_
          refine lv_bipush (v := 11) hx hb dX4_usesBalance_24 (by decide) ?_
          refine c_icmp_ne (tgt := 33) hx hb dX4_usesBalance_26 (by decide) (fun h5 => ?_) (fun h5 => ?_)
          · skip
            refine lv_iconst (v := 0) hx hb dX4_usesBalance_33 (by decide) ?_
            exact W.zret (v := (0 : Int32)) hx hb hr rfl (fun t ht hW => pq_i (by rw [sX4_usesBalance, if_neg h1, if_neg h2, if_neg h3, if_neg h4, if_neg h5]) ht) nil_free dX4_usesBalance_34
          · skip
            refine lv_iconst (v := 1) hx hb dX4_usesBalance_29 (by decide) ?_
            refine lv_goto (tgt := 34) hx hb dX4_usesBalance_30 (by decide) ?_
            exact W.zret (v := (1 : Int32)) hx hb hr rfl (fun t ht hW => pq_i (by rw [sX4_usesBalance, if_neg h1, if_neg h2, if_neg h3, if_neg h4, if_pos h5]) ht) nil_free dX4_usesBalance_34
def sX4_greatestOperand (a : Int32) : Int32 := if (sX4_usesBalance a) = 0 then if a = (8 : Int32) then (20 : Int32) else (0 : Int32) else (15 : Int32)
theorem nX4_greatestOperand : yX4_greatestOperand.cls ≠ "java/lang/invoke/MethodHandle" ∧ yX4_greatestOperand.cls ≠ "java/lang/invoke/VarHandle" ∧ (parseMethodDescriptor yX4_greatestOperand.desc).map (fun d => d.parameters.length) = some 1 := by decide +kernel
set_option maxHeartbeats 4000000 in
set_option maxRecDepth 100000 in
theorem m_X4_greatestOperand (l : Launch) (a : Int32) : PM l yX4_greatestOperand cX4_greatestOperand 1 (some .int) 1 [.int a] (fun _ => True) (.int (sX4_greatestOperand a)) := by
  refine Met.ofW (cc := cX4_greatestOperand) (maxL := 1) (ret := (some .int)) (by decide) rfl ?_
  intro p e s m args below meth c s₁ B hml hv
  obtain ⟨rfl, -⟩ := hv
  have hx := B.exec
  have hb := B.bytes
  have hr := B.returns
  have hts : ∀ w ∈ AW, w.before _ s = true := fun w h => atoms_spec (ws := Cond.code yX4_greatestOperand cX4_greatestOperand 1 (some .int) :: AW) B.pre w (List.mem_cons_of_mem _ h)
  have hown : s.vm.findClass RX4 = some m.cls := findClass_of_methodNamed B.named
  have hlocks := B.notSynchronized
  have hl := lv_entry ([.int a]) (n := 1) (Nat.le_of_ble_eq_true rfl)
  rw [lg_entry_eq]
  generalize (lg_sl ([.int a]) ++ List.replicate (1 - (lg_sl ([.int a])).length) Slot.unset).toArray = ls at hl ⊢
  have hl : lv_has ls 1 [(0, .int a)] := hl
  refine lv_iload_n hx hb dX4_greatestOperand_0 rfl (lv_at hl 0 rfl) ?_
  refine p_S (rest := []) hx hb hml hown hts (m_X4_usesBalance l a) q355 q356 q21 q357 nX4_usesBalance ⟨Nat.le_of_ble_eq_true rfl, Nat.le_of_ble_eq_true rfl⟩ hl.1 rfl rfl (Nat.le_of_ble_eq_true rfl) dX4_greatestOperand_1 ⟨Nat.zero_le _, Nat.zero_le _⟩ blind_c (fun _ _ _ => trivial) ?_
  refine c_if_eq (tgt := 10) hx hb dX4_greatestOperand_4 (by decide) (fun h1 => ?_) (fun h1 => ?_)
  · skip
    refine lv_iload_n hx hb dX4_greatestOperand_10 rfl (lv_at hl 0 rfl) ?_
    refine lv_bipush (v := 8) hx hb dX4_greatestOperand_11 (by decide) ?_
    refine c_icmp_ne (tgt := 21) hx hb dX4_greatestOperand_13 (by decide) (fun h2 => ?_) (fun h2 => ?_)
    · skip
      refine lv_iconst (v := 0) hx hb dX4_greatestOperand_21 (by decide) ?_
      exact W.iret hx hb hr (fun t ht hW => pq_i (by rw [sX4_greatestOperand, if_pos h1, if_neg h2]) ht) nil_free dX4_greatestOperand_22
    · skip
      refine lv_bipush (v := 20) hx hb dX4_greatestOperand_16 (by decide) ?_
      refine lv_goto (tgt := 22) hx hb dX4_greatestOperand_18 (by decide) ?_
      exact W.iret hx hb hr (fun t ht hW => pq_i (by rw [sX4_greatestOperand, if_pos h1, if_pos h2]) ht) nil_free dX4_greatestOperand_22
  · skip
    refine lv_bipush (v := 15) hx hb dX4_greatestOperand_7 (by decide) ?_
    exact W.iret hx hb hr (fun t ht hW => pq_i (by rw [sX4_greatestOperand, if_neg h1]) ht) nil_free dX4_greatestOperand_9
theorem nX4_balanceAt : yX4_balanceAt.cls ≠ "java/lang/invoke/MethodHandle" ∧ yX4_balanceAt.cls ≠ "java/lang/invoke/VarHandle" ∧ (parseMethodDescriptor yX4_balanceAt.desc).map (fun d => d.parameters.length) = some 1 := by decide +kernel
set_option maxHeartbeats 4000000 in
set_option maxRecDepth 100000 in
theorem m_X4_balanceAt (l : Launch) (D : va_G) (A : Nat → Prop) (cI cB : ClassId) (ra : Nat → Nat) (σ : St) (fr : va_W) (g : Int32) (hg : vp_in g 16) : PM l yX4_balanceAt cX4_balanceAt 2 (some (.object "BalanceRoom$Balance")) 0 [.ref (ra 0), .int g] (rPre D A cI cB (RW cI cB ra σ fr)) (.ref (ra (4 + g.toNatClampNeg))) := by
  refine Met.ofW (cc := cX4_balanceAt) (maxL := 2) (ret := (some (.object "BalanceRoom$Balance"))) (by decide) rfl ?_
  intro p e s m args below meth c s₁ B hml hv
  obtain ⟨rfl, hP, hK, hD, hA, hN, hT⟩ := hv
  have hx := B.exec
  have hb := B.bytes
  have hr := B.returns
  have hts : ∀ w ∈ AW, w.before _ s = true := fun w h => atoms_spec (ws := Cond.code yX4_balanceAt cX4_balanceAt 2 (some (.object "BalanceRoom$Balance")) :: AW) B.pre w (List.mem_cons_of_mem _ h)
  have hown : s.vm.findClass RX4 = some m.cls := findClass_of_methodNamed B.named
  have hlocks := B.notSynchronized
  have hS : va_S A s.heap s.heap [] := va_S.rf
  have hK0 := hK.sub (tys' := []) [] rfl
  have hl := lv_entry ([.ref (ra 0), .int g]) (n := 2) (Nat.le_of_ble_eq_true rfl)
  rw [lg_entry_eq]
  generalize (lg_sl ([.ref (ra 0), .int g]) ++ List.replicate (2 - (lg_sl ([.ref (ra 0), .int g])).length) Slot.unset).toArray = ls at hl ⊢
  have hl : lv_has ls 2 [(0, .ref (ra 0)), (1, .int g)] := hl
  have kn0 : ¬ g < 0 := fun q => hg (Or.inl q)
  have kn1 : g < (16 : Int32) := lt16 hg
  refine lv_iload_n hx hb dX4_balanceAt_0 rfl (lv_at hl 1 rfl) ?_
  refine c_if_lt (tgt := 10) hx hb dX4_balanceAt_1 (by decide) (fun hq => absurd hq kn0) (fun _ => ?_)
  refine lv_iload_n hx hb dX4_balanceAt_4 rfl (lv_at hl 1 rfl) ?_
  refine lv_bipush (v := 16) hx hb dX4_balanceAt_5 (by decide) ?_
  refine c_icmp_lt (tgt := 20) hx hb dX4_balanceAt_7 (by decide) (fun _ => ?_) (fun hq => absurd kn1 hq)
  refine lv_aload_n hx hb dX4_balanceAt_20 rfl (lv_at hl 0 rfl) ?_
  refine va_get (v := .ref (ra 1)) (C := RX4) (T := TX4) (N := 5) (ci := 4) hx hb hts inX4 hown hK hP 0 rfl rfl 0 (by decide) (hts _ q127) (fun _ h => h) rfl dX4_balanceAt_21 ?_
  refine lv_iload_n hx hb dX4_balanceAt_24 rfl (lv_at hl 1 rfl) ?_
  refine va_aldq hx hb hK hP 1 1 rfl rfl (hg) dX4_balanceAt_25 ?_
  refine p_top (w := .ref (ra (4 + g.toNatClampNeg))) rfl ?_
  exact W.aret hx hb hr (Or.inl ⟨_, rfl⟩) (Or.inr ⟨_, rfl⟩) (fun t ht hW => ⟨rfl, ht⟩) nil_free dX4_balanceAt_26
set_option maxHeartbeats 4000000 in
set_option maxRecDepth 100000 in
theorem x_X4_balanceAtN (l : Launch) (D : va_G) (A : Nat → Prop) (cI cB : ClassId) (ra : Nat → Nat) (σ : St) (fr : va_W) (g : Int32) (hst : l.stackTraces = false) (hg : ¬ vp_in g 16) : XM l yX4_balanceAt cX4_balanceAt 2 (some (.object "BalanceRoom$Balance")) 6 [.ref (ra 0), .int g] (rPre D A cI cB (RW cI cB ra σ fr)) xIA D A (RW cI cB ra σ fr) := by
  refine vx_ofW (cc := cX4_balanceAt) (maxL := 2) (ret := (some (.object "BalanceRoom$Balance"))) (by decide) rfl ?_
  intro p e s m args below meth c s₁ B hml htb hv
  obtain ⟨rfl, hP, hK, hD, hA, hN, hT⟩ := hv
  have hx := B.exec
  have hb := B.bytes
  have hr := B.returns
  have hts : ∀ w ∈ AW, w.before _ s = true := fun w h => atoms_spec (ws := Cond.code yX4_balanceAt cX4_balanceAt 2 (some (.object "BalanceRoom$Balance")) :: AW) B.pre w (List.mem_cons_of_mem _ h)
  have hown : s.vm.findClass RX4 = some m.cls := findClass_of_methodNamed B.named
  have hlocks := B.notSynchronized
  have hS : va_S A s.heap s.heap [] := va_S.rf
  have hK0 := hK.sub (tys' := []) [] rfl
  have hl := lv_entry ([.ref (ra 0), .int g]) (n := 2) (Nat.le_of_ble_eq_true rfl)
  rw [lg_entry_eq]
  generalize (lg_sl ([.ref (ra 0), .int g]) ++ List.replicate (2 - (lg_sl ([.ref (ra 0), .int g])).length) Slot.unset).toArray = ls at hl ⊢
  have hl : lv_has ls 2 [(0, .ref (ra 0)), (1, .int g)] := hl
  refine lv_iload_n hx hb dX4_balanceAt_0 rfl (lv_at hl 1 rfl) ?_
  refine c_if_lt (tgt := 10) hx hb dX4_balanceAt_1 (by decide) (fun h1 => ?_) (fun h1 => ?_)
  · skip
    exact x_throw (cls := xIA) (text := "no such balance") hx hb hst hml hown hts hT htb hP hS fitIA q163 q30 (by decide) (at_IA hts hT) gdIA hl.1 dX4_balanceAt_10 dX4_balanceAt_13 dX4_balanceAt_14 dX4_balanceAt_16 dX4_balanceAt_19 ⟨Nat.le_of_ble_eq_true rfl, Nat.le_of_ble_eq_true rfl⟩ ⟨Nat.le_of_ble_eq_true rfl, Nat.le_of_ble_eq_true rfl⟩ hlocks
  · skip
    refine lv_iload_n hx hb dX4_balanceAt_4 rfl (lv_at hl 1 rfl) ?_
    refine lv_bipush (v := 16) hx hb dX4_balanceAt_5 (by decide) ?_
    have kz2 : ¬ g < (16 : Int32) := nin hg (by assumption)
    refine c_icmp_lt (tgt := 20) hx hb dX4_balanceAt_7 (by decide) (fun hq => absurd hq kz2) (fun _ => ?_)
    exact x_throw (cls := xIA) (text := "no such balance") hx hb hst hml hown hts hT htb hP hS fitIA q163 q30 (by decide) (at_IA hts hT) gdIA hl.1 dX4_balanceAt_10 dX4_balanceAt_13 dX4_balanceAt_14 dX4_balanceAt_16 dX4_balanceAt_19 ⟨Nat.le_of_ble_eq_true rfl, Nat.le_of_ble_eq_true rfl⟩ ⟨Nat.le_of_ble_eq_true rfl, Nat.le_of_ble_eq_true rfl⟩ hlocks
