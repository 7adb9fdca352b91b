def sX5_cut (a : Int32) (v : Int64) (k : Int32) : Int64 := if (sX5_isWhole a) = 0 then (sX5_bits a (sX5_whole (sX5_real a v) k)) else v
theorem nX5_cut : yX5_cut.cls ≠ "java/lang/invoke/MethodHandle" ∧ yX5_cut.cls ≠ "java/lang/invoke/VarHandle" ∧ (parseMethodDescriptor yX5_cut.desc).map (fun d => d.parameters.length) = some 3 := by decide +kernel
set_option maxHeartbeats 4000000 in
set_option maxRecDepth 100000 in
theorem m_X5_cut (l : Launch) (a : Int32) (v : Int64) (k : Int32) (hF : sX5_isWhole a = 0 → okF a v) : PM l yX5_cut cX5_cut 4 (some .long) 3 [.int a, .long v, .int k] (fun _ => True) (.long (sX5_cut a v k)) := by
  refine Met.ofW (cc := cX5_cut) (maxL := 4) (ret := (some .long)) (by decide) rfl ?_
  intro p e s m args below meth c s₁ B hml hv
  obtain ⟨rfl, -⟩ := hv
  have hx := B.exec
  have hb := B.bytes
  have hr := B.returns
  have hts : ∀ w ∈ AW, w.before _ s = true := fun w h => atoms_spec (ws := Cond.code yX5_cut cX5_cut 4 (some .long) :: AW) B.pre w (List.mem_cons_of_mem _ h)
  have hown : s.vm.findClass RX5 = some m.cls := findClass_of_methodNamed B.named
  have hlocks := B.notSynchronized
  have hl := lv_entry ([.int a, .long v, .int k]) (n := 4) (Nat.le_of_ble_eq_true rfl)
  rw [lg_entry_eq]
  generalize (lg_sl ([.int a, .long v, .int k]) ++ List.replicate (4 - (lg_sl ([.int a, .long v, .int k])).length) Slot.unset).toArray = ls at hl ⊢
  have hl : lv_has ls 4 [(0, .int a), (1, .long v), (3, .int k)] := hl
  refine lv_iload_n hx hb dX5_cut_0 rfl (lv_at hl 0 rfl) ?_
  refine p_S (rest := []) hx hb hml hown hts (m_X5_isWhole l a) q643 q644 q26 q645 nX5_isWhole ⟨Nat.le_of_ble_eq_true rfl, Nat.le_of_ble_eq_true rfl⟩ hl.1 rfl rfl (Nat.le_of_ble_eq_true rfl) dX5_cut_1 ⟨Nat.zero_le _, Nat.zero_le _⟩ blind_c (fun _ _ _ => trivial) ?_
  refine c_if_eq (tgt := 11) hx hb dX5_cut_4 (by decide) (fun h1 => ?_) (fun h1 => ?_)
  · skip
    refine lv_iload_n hx hb dX5_cut_11 rfl (lv_at hl 0 rfl) ?_
    refine lv_iload_n hx hb dX5_cut_12 rfl (lv_at hl 0 rfl) ?_
    refine lv_lload_n hx hb dX5_cut_13 rfl (lv_at hl 1 rfl) ?_
    refine p_S (rest := [.int a]) hx hb hml hown hts (m_X5_real l a v (hF h1)) q654 q655 q26 q656 nX5_real ⟨Nat.le_of_ble_eq_true rfl, Nat.le_of_ble_eq_true rfl⟩ hl.1 rfl rfl (Nat.le_of_ble_eq_true rfl) dX5_cut_14 ⟨Nat.zero_le _, Nat.zero_le _⟩ blind_c (fun _ _ _ => trivial) ?_
    refine lv_iload_n hx hb dX5_cut_17 rfl (lv_at hl 2 rfl) ?_
    refine p_S (rest := [.int a]) hx hb hml hown hts (m_X5_whole l (sX5_real a v) k (nn_real (hF h1))) q748 q749 q26 q750 nX5_whole ⟨Nat.le_of_ble_eq_true rfl, Nat.le_of_ble_eq_true rfl⟩ hl.1 rfl rfl (Nat.le_of_ble_eq_true rfl) dX5_cut_18 ⟨Nat.zero_le _, Nat.zero_le _⟩ blind_c (fun _ _ _ => trivial) ?_
    refine p_S (rest := []) hx hb hml hown hts (m_X5_bits l a (sX5_whole (sX5_real a v) k) (nn_whole (nn_real (hF h1)))) q663 q664 q26 q665 nX5_bits ⟨Nat.le_of_ble_eq_true rfl, Nat.le_of_ble_eq_true rfl⟩ hl.1 rfl rfl (Nat.le_of_ble_eq_true rfl) dX5_cut_21 ⟨Nat.zero_le _, Nat.zero_le _⟩ blind_c (fun _ _ _ => trivial) ?_
    exact W.lret hx hb hr (fun t ht hW => pq_l (by rw [sX5_cut, if_pos h1]) ht) nil_free dX5_cut_24
  · skip
    refine lv_lload_n hx hb dX5_cut_7 rfl (lv_at hl 1 rfl) ?_
    refine lv_goto (tgt := 24) hx hb dX5_cut_8 (by decide) ?_
    exact W.lret hx hb hr (fun t ht hW => pq_l (by rw [sX5_cut, if_neg h1]) ht) nil_free dX5_cut_24
theorem ok_cut {a : Int32} {v : Int64} {k : Int32} (h : okF a v) : okF a (sX5_cut a v k) := by
  unfold sX5_cut
  split
  · exact ok_bits (nn_whole (nn_real h))
  · exact h
def sX5_step_e1 (a : Int32) (v : Int64) (k : Int32) : Int64 := (sX5_bits a (FP.dmul (sX5_real a v) (sX5_power (-k))))
def sX5_step_e2 (a : Int32) (v : Int64) (k : Int32) : Int64 := (sX5_cut a (sX5_step_e1 a v k) (0 : Int32))
def sX5_step (a : Int32) (v : Int64) (k : Int32) : Int64 := if (sX5_isWhole a) = 0 then (sX5_bits a (FP.dmul (sX5_real a (sX5_step_e2 a v k)) (sX5_power k))) else if k < 0 then v else ((v >>> (k.toInt64 &&& 63)) <<< (k.toInt64 &&& 63))
theorem nX5_step : yX5_step.cls ≠ "java/lang/invoke/MethodHandle" ∧ yX5_step.cls ≠ "java/lang/invoke/VarHandle" ∧ (parseMethodDescriptor yX5_step.desc).map (fun d => d.parameters.length) = some 3 := by decide +kernel
set_option maxHeartbeats 4000000 in
set_option maxRecDepth 100000 in
theorem m_X5_step (l : Launch) (a : Int32) (v : Int64) (k : Int32) (hF : sX5_isWhole a = 0 → okF a v) (hp : sX5_isWhole a = 0 → okP k) : PM l yX5_step cX5_step 8 (some .long) 4 [.int a, .long v, .int k] (fun _ => True) (.long (sX5_step a v k)) := by
  refine Met.ofW (cc := cX5_step) (maxL := 8) (ret := (some .long)) (by decide) rfl ?_
  intro p e s m args below meth c s₁ B hml hv
  obtain ⟨rfl, -⟩ := hv
  have hx := B.exec
  have hb := B.bytes
  have hr := B.returns
  have hts : ∀ w ∈ AW, w.before _ s = true := fun w h => atoms_spec (ws := Cond.code yX5_step cX5_step 8 (some .long) :: AW) B.pre w (List.mem_cons_of_mem _ h)
  have hown : s.vm.findClass RX5 = some m.cls := findClass_of_methodNamed B.named
  have hlocks := B.notSynchronized
  have hl := lv_entry ([.int a, .long v, .int k]) (n := 8) (Nat.le_of_ble_eq_true rfl)
  rw [lg_entry_eq]
  generalize (lg_sl ([.int a, .long v, .int k]) ++ List.replicate (8 - (lg_sl ([.int a, .long v, .int k])).length) Slot.unset).toArray = ls at hl ⊢
  have hl : lv_has ls 8 [(0, .int a), (1, .long v), (3, .int k)] := hl
  refine lv_iload_n hx hb dX5_step_0 rfl (lv_at hl 0 rfl) ?_
  refine p_S (rest := []) hx hb hml hown hts (m_X5_isWhole l a) q643 q644 q26 q645 nX5_isWhole ⟨Nat.le_of_ble_eq_true rfl, Nat.le_of_ble_eq_true rfl⟩ hl.1 rfl rfl (Nat.le_of_ble_eq_true rfl) dX5_step_1 ⟨Nat.zero_le _, Nat.zero_le _⟩ blind_c (fun _ _ _ => trivial) ?_
  refine c_if_eq (tgt := 21) hx hb dX5_step_4 (by decide) (fun h1 => ?_) (fun h1 => ?_)
  · skip
    refine lv_iload_n hx hb dX5_step_21 rfl (lv_at hl 0 rfl) ?_
    refine lv_iload_n hx hb dX5_step_22 rfl (lv_at hl 0 rfl) ?_
    refine lv_lload_n hx hb dX5_step_23 rfl (lv_at hl 1 rfl) ?_
    refine p_S (rest := [.int a]) hx hb hml hown hts (m_X5_real l a v (hF h1)) q654 q655 q26 q656 nX5_real ⟨Nat.le_of_ble_eq_true rfl, Nat.le_of_ble_eq_true rfl⟩ hl.1 rfl rfl (Nat.le_of_ble_eq_true rfl) dX5_step_24 ⟨Nat.zero_le _, Nat.zero_le _⟩ blind_c (fun _ _ _ => trivial) ?_
    refine lv_iload_n hx hb dX5_step_27 rfl (lv_at hl 2 rfl) ?_
    refine lv_ineg hx hb dX5_step_28 ?_
    refine p_S (rest := [.double (sX5_real a v), .int a]) hx hb hml hown hts (m_X5_power l (-k) (pw_div (okP_neg (hp h1)))) q758 q759 q26 q760 nX5_power ⟨Nat.le_of_ble_eq_true rfl, Nat.le_of_ble_eq_true rfl⟩ hl.1 rfl rfl (Nat.le_of_ble_eq_true rfl) dX5_step_29 ⟨Nat.zero_le _, Nat.zero_le _⟩ blind_c (fun _ _ _ => trivial) ?_
    refine lv_dmul hx hb dX5_step_32 (nn_mulp (nn_real (hF h1)) (okP_neg (hp h1))) ?_
    refine p_S (rest := []) hx hb hml hown hts (m_X5_bits l a (FP.dmul (sX5_real a v) (sX5_power (-k))) (nn_mulp (nn_real (hF h1)) (okP_neg (hp h1)))) q663 q664 q26 q665 nX5_bits ⟨Nat.le_of_ble_eq_true rfl, Nat.le_of_ble_eq_true rfl⟩ hl.1 rfl rfl (Nat.le_of_ble_eq_true rfl) dX5_step_33 ⟨Nat.zero_le _, Nat.zero_le _⟩ blind_c (fun _ _ _ => trivial) ?_
    refine p_top (w := .long (sX5_step_e1 a v k)) rfl ?_
    refine lv_lstore (lv' := [(4, .long (sX5_step_e1 a v k)), (0, .int a), (1, .long v), (3, .int k)]) hx hb dX5_step_36 hl (by decide) rfl (fun ls hl => ?_)
    refine lv_iload_n hx hb dX5_step_38 rfl (lv_at hl 1 rfl) ?_
    refine lv_lload hx hb dX5_step_39 (lv_at hl 0 rfl) ?_
    refine lv_iconst (v := 0) hx hb dX5_step_41 (by decide) ?_
    refine p_S (rest := []) hx hb hml hown hts (m_X5_cut l a (sX5_step_e1 a v k) (0 : Int32) (fun _ => ok_bits (nn_mulp (nn_real (hF h1)) (okP_neg (hp h1))))) q745 q746 q26 q747 nX5_cut ⟨Nat.le_of_ble_eq_true rfl, Nat.le_of_ble_eq_true rfl⟩ hl.1 rfl rfl (Nat.le_of_ble_eq_true rfl) dX5_step_42 ⟨Nat.zero_le _, Nat.zero_le _⟩ blind_c (fun _ _ _ => trivial) ?_
    refine p_top (w := .long (sX5_step_e2 a v k)) rfl ?_
    refine lv_lstore (lv' := [(6, .long (sX5_step_e2 a v k)), (4, .long (sX5_step_e1 a v k)), (0, .int a), (1, .long v), (3, .int k)]) hx hb dX5_step_45 hl (by decide) rfl (fun ls hl => ?_)
    refine lv_iload_n hx hb dX5_step_47 rfl (lv_at hl 2 rfl) ?_
    refine lv_iload_n hx hb dX5_step_48 rfl (lv_at hl 2 rfl) ?_
    refine lv_lload hx hb dX5_step_49 (lv_at hl 0 rfl) ?_
    refine p_S (rest := [.int a]) hx hb hml hown hts (m_X5_real l a (sX5_step_e2 a v k) (ok_cut (ok_bits (nn_mulp (nn_real (hF h1)) (okP_neg (hp h1)))))) q654 q655 q26 q656 nX5_real ⟨Nat.le_of_ble_eq_true rfl, Nat.le_of_ble_eq_true rfl⟩ hl.1 rfl rfl (Nat.le_of_ble_eq_true rfl) dX5_step_51 ⟨Nat.zero_le _, Nat.zero_le _⟩ blind_c (fun _ _ _ => trivial) ?_
    refine lv_iload_n hx hb dX5_step_54 rfl (lv_at hl 4 rfl) ?_
    refine p_S (rest := [.double (sX5_real a (sX5_step_e2 a v k)), .int a]) hx hb hml hown hts (m_X5_power l k (pw_div (hp h1))) q758 q759 q26 q760 nX5_power ⟨Nat.le_of_ble_eq_true rfl, Nat.le_of_ble_eq_true rfl⟩ hl.1 rfl rfl (Nat.le_of_ble_eq_true rfl) dX5_step_55 ⟨Nat.zero_le _, Nat.zero_le _⟩ blind_c (fun _ _ _ => trivial) ?_
    refine lv_dmul hx hb dX5_step_58 (nn_mulp (nn_real (ok_cut (ok_bits (nn_mulp (nn_real (hF h1)) (okP_neg (hp h1)))))) (hp h1)) ?_
    refine p_S (rest := []) hx hb hml hown hts (m_X5_bits l a (FP.dmul (sX5_real a (sX5_step_e2 a v k)) (sX5_power k)) (nn_mulp (nn_real (ok_cut (ok_bits (nn_mulp (nn_real (hF h1)) (okP_neg (hp h1)))))) (hp h1))) q663 q664 q26 q665 nX5_bits ⟨Nat.le_of_ble_eq_true rfl, Nat.le_of_ble_eq_true rfl⟩ hl.1 rfl rfl (Nat.le_of_ble_eq_true rfl) dX5_step_59 ⟨Nat.zero_le _, Nat.zero_le _⟩ blind_c (fun _ _ _ => trivial) ?_
    exact W.lret hx hb hr (fun t ht hW => pq_l (by rw [sX5_step, if_pos h1]) ht) nil_free dX5_step_62
  · skip
    refine lv_iload_n hx hb dX5_step_7 rfl (lv_at hl 2 rfl) ?_
    refine c_if_ge (tgt := 15) hx hb dX5_step_8 (by decide) (fun h2 => ?_) (fun h2 => ?_)
    · skip
      refine lv_lload_n hx hb dX5_step_15 rfl (lv_at hl 1 rfl) ?_
      refine lv_iload_n hx hb dX5_step_16 rfl (lv_at hl 2 rfl) ?_
      refine lv_lshr hx hb dX5_step_17 rfl ?_
      refine lv_iload_n hx hb dX5_step_18 rfl (lv_at hl 2 rfl) ?_
      refine lv_lshl hx hb dX5_step_19 rfl ?_
      exact W.lret hx hb hr (fun t ht hW => pq_l (by rw [sX5_step, if_neg h1, if_neg h2]) ht) nil_free dX5_step_20
    · skip
      refine lv_lload_n hx hb dX5_step_11 rfl (lv_at hl 1 rfl) ?_
      refine lv_goto (tgt := 20) hx hb dX5_step_12 (by decide) ?_
      exact W.lret hx hb hr (fun t ht hW => pq_l (by rw [sX5_step, if_neg h1, if_pos h2]) ht) nil_free dX5_step_20
def sX5_meet_e1 (a : Int32) (v : Int64) (w : Int64) : Int64 := (sX5_bits a (FP.dadd (sX5_real a v) (sX5_real a w)))
def sX5_meet (a : Int32) (v : Int64) (w : Int64) : Int64 := if (sX5_isWhole a) = 0 then (sX5_bits a (FP.dmul (sX5_real a (sX5_meet_e1 a v w)) (4602678819172646912 : UInt64))) else ((sX5_wrapped a (v + w)) >>> ((1 : Int32).toInt64 &&& 63))
theorem nX5_meet : yX5_meet.cls ≠ "java/lang/invoke/MethodHandle" ∧ yX5_meet.cls ≠ "java/lang/invoke/VarHandle" ∧ (parseMethodDescriptor yX5_meet.desc).map (fun d => d.parameters.length) = some 3 := by decide +kernel
set_option maxHeartbeats 4000000 in
set_option maxRecDepth 100000 in
theorem m_X5_meet (l : Launch) (a : Int32) (v : Int64) (w : Int64) (hF : sX5_isWhole a = 0 → okF a v) (hG : sX5_isWhole a = 0 → okF a w) (hM : sX5_isWhole a = 0 → vf_n64 (FP.dadd (sX5_real a v) (sX5_real a w))) : PM l yX5_meet cX5_meet 7 (some .long) 3 [.int a, .long v, .long w] (fun _ => True) (.long (sX5_meet a v w)) := by
  refine Met.ofW (cc := cX5_meet) (maxL := 7) (ret := (some .long)) (by decide) rfl ?_
  intro p e s m args below meth c s₁ B hml hv
  obtain ⟨rfl, -⟩ := hv
  have hx := B.exec
  have hb := B.bytes
  have hr := B.returns
  have hts : ∀ w ∈ AW, w.before _ s = true := fun w h => atoms_spec (ws := Cond.code yX5_meet cX5_meet 7 (some .long) :: AW) B.pre w (List.mem_cons_of_mem _ h)
  have hown : s.vm.findClass RX5 = some m.cls := findClass_of_methodNamed B.named
  have hlocks := B.notSynchronized
  have hl := lv_entry ([.int a, .long v, .long w]) (n := 7) (Nat.le_of_ble_eq_true rfl)
  rw [lg_entry_eq]
  generalize (lg_sl ([.int a, .long v, .long w]) ++ List.replicate (7 - (lg_sl ([.int a, .long v, .long w])).length) Slot.unset).toArray = ls at hl ⊢
  have hl : lv_has ls 7 [(0, .int a), (1, .long v), (3, .long w)] := hl
  refine lv_iload_n hx hb dX5_meet_0 rfl (lv_at hl 0 rfl) ?_
  refine p_S (rest := []) hx hb hml hown hts (m_X5_isWhole l a) q643 q644 q26 q645 nX5_isWhole ⟨Nat.le_of_ble_eq_true rfl, Nat.le_of_ble_eq_true rfl⟩ hl.1 rfl rfl (Nat.le_of_ble_eq_true rfl) dX5_meet_1 ⟨Nat.zero_le _, Nat.zero_le _⟩ blind_c (fun _ _ _ => trivial) ?_
  refine c_if_eq (tgt := 17) hx hb dX5_meet_4 (by decide) (fun h1 => ?_) (fun h1 => ?_)
  · skip
    refine lv_iload_n hx hb dX5_meet_17 rfl (lv_at hl 0 rfl) ?_
    refine lv_iload_n hx hb dX5_meet_18 rfl (lv_at hl 0 rfl) ?_
    refine lv_lload_n hx hb dX5_meet_19 rfl (lv_at hl 1 rfl) ?_
    refine p_S (rest := [.int a]) hx hb hml hown hts (m_X5_real l a v (hF h1)) q654 q655 q26 q656 nX5_real ⟨Nat.le_of_ble_eq_true rfl, Nat.le_of_ble_eq_true rfl⟩ hl.1 rfl rfl (Nat.le_of_ble_eq_true rfl) dX5_meet_20 ⟨Nat.zero_le _, Nat.zero_le _⟩ blind_c (fun _ _ _ => trivial) ?_
    refine lv_iload_n hx hb dX5_meet_23 rfl (lv_at hl 0 rfl) ?_
    refine lv_lload_n hx hb dX5_meet_24 rfl (lv_at hl 2 rfl) ?_
    refine p_S (rest := [.double (sX5_real a v), .int a]) hx hb hml hown hts (m_X5_real l a w (hG h1)) q654 q655 q26 q656 nX5_real ⟨Nat.le_of_ble_eq_true rfl, Nat.le_of_ble_eq_true rfl⟩ hl.1 rfl rfl (Nat.le_of_ble_eq_true rfl) dX5_meet_25 ⟨Nat.zero_le _, Nat.zero_le _⟩ blind_c (fun _ _ _ => trivial) ?_
    refine lv_dadd hx hb dX5_meet_28 (hM h1) ?_
    refine p_S (rest := []) hx hb hml hown hts (m_X5_bits l a (FP.dadd (sX5_real a v) (sX5_real a w)) (hM h1)) q663 q664 q26 q665 nX5_bits ⟨Nat.le_of_ble_eq_true rfl, Nat.le_of_ble_eq_true rfl⟩ hl.1 rfl rfl (Nat.le_of_ble_eq_true rfl) dX5_meet_29 ⟨Nat.zero_le _, Nat.zero_le _⟩ blind_c (fun _ _ _ => trivial) ?_
    refine p_top (w := .long (sX5_meet_e1 a v w)) rfl ?_
    refine lv_lstore (lv' := [(5, .long (sX5_meet_e1 a v w)), (0, .int a), (1, .long v), (3, .long w)]) hx hb dX5_meet_32 hl (by decide) rfl (fun ls hl => ?_)
    refine lv_iload_n hx hb dX5_meet_34 rfl (lv_at hl 1 rfl) ?_
    refine lv_iload_n hx hb dX5_meet_35 rfl (lv_at hl 1 rfl) ?_
    refine lv_lload hx hb dX5_meet_36 (lv_at hl 0 rfl) ?_
    refine p_S (rest := [.int a]) hx hb hml hown hts (m_X5_real l a (sX5_meet_e1 a v w) (ok_bits (hM h1))) q654 q655 q26 q656 nX5_real ⟨Nat.le_of_ble_eq_true rfl, Nat.le_of_ble_eq_true rfl⟩ hl.1 rfl rfl (Nat.le_of_ble_eq_true rfl) dX5_meet_38 ⟨Nat.zero_le _, Nat.zero_le _⟩ blind_c (fun _ _ _ => trivial) ?_
    refine lv_ldc2d hx hb hown (hts _ q753) dX5_meet_41 ?_
    refine lv_dmul hx hb dX5_meet_44 (nn_half (nn_real (ok_bits (hM h1)))) ?_
    refine p_S (rest := []) hx hb hml hown hts (m_X5_bits l a (FP.dmul (sX5_real a (sX5_meet_e1 a v w)) (4602678819172646912 : UInt64)) (nn_half (nn_real (ok_bits (hM h1))))) q663 q664 q26 q665 nX5_bits ⟨Nat.le_of_ble_eq_true rfl, Nat.le_of_ble_eq_true rfl⟩ hl.1 rfl rfl (Nat.le_of_ble_eq_true rfl) dX5_meet_45 ⟨Nat.zero_le _, Nat.zero_le _⟩ blind_c (fun _ _ _ => trivial) ?_
    exact W.lret hx hb hr (fun t ht hW => pq_l (by rw [sX5_meet, if_pos h1]) ht) nil_free dX5_meet_48
  · skip
    refine lv_iload_n hx hb dX5_meet_7 rfl (lv_at hl 0 rfl) ?_
    refine lv_lload_n hx hb dX5_meet_8 rfl (lv_at hl 1 rfl) ?_
    refine lv_lload_n hx hb dX5_meet_9 rfl (lv_at hl 2 rfl) ?_
    refine lv_ladd hx hb dX5_meet_10 ?_
    refine p_S (rest := []) hx hb hml hown hts (m_X5_wrapped l a (v + w)) q646 q647 q26 q648 nX5_wrapped ⟨Nat.le_of_ble_eq_true rfl, Nat.le_of_ble_eq_true rfl⟩ hl.1 rfl rfl (Nat.le_of_ble_eq_true rfl) dX5_meet_11 ⟨Nat.zero_le _, Nat.zero_le _⟩ blind_c (fun _ _ _ => trivial) ?_
    refine lv_iconst (v := 1) hx hb dX5_meet_14 (by decide) ?_
    refine lv_lshr hx hb dX5_meet_15 rfl ?_
    exact W.lret hx hb hr (fun t ht hW => pq_l (by rw [sX5_meet, if_neg h1]) ht) nil_free dX5_meet_16
def sX5_part (a : Int32) (v : Int64) : Int64 := if (sX5_isWhole a) = 0 then if (sX5_isInfinite a v) = 0 then (sX5_bits a (FP.dsub (sX5_real a v) (sX5_real a (sX5_cut a v (-1 : Int32))))) else if v < (0 : Int64) then (sX5_turned a (0 : Int64)) else (0 : Int64) else (0 : Int64)
theorem nX5_part : yX5_part.cls ≠ "java/lang/invoke/MethodHandle" ∧ yX5_part.cls ≠ "java/lang/invoke/VarHandle" ∧ (parseMethodDescriptor yX5_part.desc).map (fun d => d.parameters.length) = some 2 := by decide +kernel
set_option maxHeartbeats 4000000 in
set_option maxRecDepth 100000 in
theorem m_X5_part (l : Launch) (a : Int32) (v : Int64) (hF : sX5_isWhole a = 0 → okF a v) (hM : sX5_isWhole a = 0 → sX5_isInfinite a v = 0 → vf_n64 (FP.dsub (sX5_real a v) (sX5_real a (sX5_cut a v (-1 : Int32))))) : PM l yX5_part cX5_part 3 (some .long) 4 [.int a, .long v] (fun _ => True) (.long (sX5_part a v)) := by
  refine Met.ofW (cc := cX5_part) (maxL := 3) (ret := (some .long)) (by decide) rfl ?_
  intro p e s m args below meth c s₁ B hml hv
  obtain ⟨rfl, -⟩ := hv
  have hx := B.exec
  have hb := B.bytes
  have hr := B.returns
  have hts : ∀ w ∈ AW, w.before _ s = true := fun w h => atoms_spec (ws := Cond.code yX5_part cX5_part 3 (some .long) :: AW) B.pre w (List.mem_cons_of_mem _ h)
  have hown : s.vm.findClass RX5 = some m.cls := findClass_of_methodNamed B.named
  have hlocks := B.notSynchronized
  have hl := lv_entry ([.int a, .long v]) (n := 3) (Nat.le_of_ble_eq_true rfl)
  rw [lg_entry_eq]
  generalize (lg_sl ([.int a, .long v]) ++ List.replicate (3 - (lg_sl ([.int a, .long v])).length) Slot.unset).toArray = ls at hl ⊢
  have hl : lv_has ls 3 [(0, .int a), (1, .long v)] := hl
  refine lv_iload_n hx hb dX5_part_0 rfl (lv_at hl 0 rfl) ?_
  refine p_S (rest := []) hx hb hml hown hts (m_X5_isWhole l a) q643 q644 q26 q645 nX5_isWhole ⟨Nat.le_of_ble_eq_true rfl, Nat.le_of_ble_eq_true rfl⟩ hl.1 rfl rfl (Nat.le_of_ble_eq_true rfl) dX5_part_1 ⟨Nat.zero_le _, Nat.zero_le _⟩ blind_c (fun _ _ _ => trivial) ?_
  refine c_if_eq (tgt := 9) hx hb dX5_part_4 (by decide) (fun h1 => ?_) (fun h1 => ?_)
  · skip
    refine lv_iload_n hx hb dX5_part_9 rfl (lv_at hl 0 rfl) ?_
    refine lv_lload_n hx hb dX5_part_10 rfl (lv_at hl 1 rfl) ?_
    refine p_S (rest := []) hx hb hml hown hts (m_X5_isInfinite l a v) q649 q650 q26 q651 nX5_isInfinite ⟨Nat.le_of_ble_eq_true rfl, Nat.le_of_ble_eq_true rfl⟩ hl.1 rfl rfl (Nat.le_of_ble_eq_true rfl) dX5_part_11 ⟨Nat.zero_le _, Nat.zero_le _⟩ blind_c (fun _ _ _ => trivial) ?_
    refine c_if_eq (tgt := 33) hx hb dX5_part_14 (by decide) (fun h2 => ?_) (fun h2 => ?_)
    · skip
      refine lv_iload_n hx hb dX5_part_33 rfl (lv_at hl 0 rfl) ?_
      refine lv_iload_n hx hb dX5_part_34 rfl (lv_at hl 0 rfl) ?_
      refine lv_lload_n hx hb dX5_part_35 rfl (lv_at hl 1 rfl) ?_
      refine p_S (rest := [.int a]) hx hb hml hown hts (m_X5_real l a v (hF h1)) q654 q655 q26 q656 nX5_real ⟨Nat.le_of_ble_eq_true rfl, Nat.le_of_ble_eq_true rfl⟩ hl.1 rfl rfl (Nat.le_of_ble_eq_true rfl) dX5_part_36 ⟨Nat.zero_le _, Nat.zero_le _⟩ blind_c (fun _ _ _ => trivial) ?_
      refine lv_iload_n hx hb dX5_part_39 rfl (lv_at hl 0 rfl) ?_
      refine lv_iload_n hx hb dX5_part_40 rfl (lv_at hl 0 rfl) ?_
      refine lv_lload_n hx hb dX5_part_41 rfl (lv_at hl 1 rfl) ?_
      refine lv_iconst (v := -1) hx hb dX5_part_42 (by decide) ?_
      refine p_S (rest := [.int a, .double (sX5_real a v), .int a]) hx hb hml hown hts (m_X5_cut l a v (-1 : Int32) (hF)) q745 q746 q26 q747 nX5_cut ⟨Nat.le_of_ble_eq_true rfl, Nat.le_of_ble_eq_true rfl⟩ hl.1 rfl rfl (Nat.le_of_ble_eq_true rfl) dX5_part_43 ⟨Nat.zero_le _, Nat.zero_le _⟩ blind_c (fun _ _ _ => trivial) ?_
      refine p_S (rest := [.double (sX5_real a v), .int a]) hx hb hml hown hts (m_X5_real l a (sX5_cut a v (-1 : Int32)) (ok_cut (hF h1))) q654 q655 q26 q656 nX5_real ⟨Nat.le_of_ble_eq_true rfl, Nat.le_of_ble_eq_true rfl⟩ hl.1 rfl rfl (Nat.le_of_ble_eq_true rfl) dX5_part_46 ⟨Nat.zero_le _, Nat.zero_le _⟩ blind_c (fun _ _ _ => trivial) ?_
      refine lv_dsub hx hb dX5_part_49 (hM h1 h2) ?_
      refine p_S (rest := []) hx hb hml hown hts (m_X5_bits l a (FP.dsub (sX5_real a v) (sX5_real a (sX5_cut a v (-1 : Int32)))) (hM h1 h2)) q663 q664 q26 q665 nX5_bits ⟨Nat.le_of_ble_eq_true rfl, Nat.le_of_ble_eq_true rfl⟩ hl.1 rfl rfl (Nat.le_of_ble_eq_true rfl) dX5_part_50 ⟨Nat.zero_le _, Nat.zero_le _⟩ blind_c (fun _ _ _ => trivial) ?_
      exact W.lret hx hb hr (fun t ht hW => pq_l (by rw [sX5_part, if_pos h1, if_pos h2]) ht) nil_free dX5_part_53
    · skip
      refine lv_lload_n hx hb dX5_part_17 rfl (lv_at hl 1 rfl) ?_
      refine lv_lconst (v := 0) hx hb dX5_part_18 (by decide) ?_
      refine c_lcmp_ge (tgt := 31) hx hb dX5_part_19 dX5_part_20 (by decide) (fun h3 => ?_) (fun h3 => ?_)
      · skip
        refine lv_lconst (v := 0) hx hb dX5_part_31 (by decide) ?_
        exact W.lret hx hb hr (fun t ht hW => pq_l (by rw [sX5_part, if_pos h1, if_neg h2, if_neg h3]) ht) nil_free dX5_part_32
      · skip
        refine lv_iload_n hx hb dX5_part_23 rfl (lv_at hl 0 rfl) ?_
        refine lv_lconst (v := 0) hx hb dX5_part_24 (by decide) ?_
        refine p_S (rest := []) hx hb hml hown hts (m_X5_turned l a (0 : Int64)) q695 q696 q26 q697 nX5_turned ⟨Nat.le_of_ble_eq_true rfl, Nat.le_of_ble_eq_true rfl⟩ hl.1 rfl rfl (Nat.le_of_ble_eq_true rfl) dX5_part_25 ⟨Nat.zero_le _, Nat.zero_le _⟩ blind_c (fun _ _ _ => trivial) ?_
        refine lv_goto (tgt := 32) hx hb dX5_part_28 (by decide) ?_
        exact W.lret hx hb hr (fun t ht hW => pq_l (by rw [sX5_part, if_pos h1, if_neg h2, if_pos h3]) ht) nil_free dX5_part_32
  · skip
    refine lv_lconst (v := 0) hx hb dX5_part_7 (by decide) ?_
    exact W.lret hx hb hr (fun t ht hW => pq_l (by rw [sX5_part, if_neg h1]) ht) nil_free dX5_part_8
def sX5_less (a : Int32) (v : Int64) (w : Int64) : Int64 := if (sX5_isWhole a) = 0 then if (sX5_isInfinite a v) = 0 then (sX5_bits a (FP.dsub (sX5_real a v) (sX5_real a w))) else if v = w then (0 : Int64) else (sX5_bits a (FP.dsub (sX5_real a v) (sX5_real a w))) else (sX5_wrapped a (v - w))
theorem nX5_less : yX5_less.cls ≠ "java/lang/invoke/MethodHandle" ∧ yX5_less.cls ≠ "java/lang/invoke/VarHandle" ∧ (parseMethodDescriptor yX5_less.desc).map (fun d => d.parameters.length) = some 3 := by decide +kernel
set_option maxHeartbeats 4000000 in
set_option maxRecDepth 100000 in
theorem m_X5_less (l : Launch) (a : Int32) (v : Int64) (w : Int64) (hF : sX5_isWhole a = 0 → okF a v) (hG : sX5_isWhole a = 0 → okF a w) (hM : sX5_isWhole a = 0 → (sX5_isInfinite a v = 0 ∨ ¬ v = w) → vf_n64 (FP.dsub (sX5_real a v) (sX5_real a w))) : PM l yX5_less cX5_less 5 (some .long) 3 [.int a, .long v, .long w] (fun _ => True) (.long (sX5_less a v w)) := by
  refine Met.ofW (cc := cX5_less) (maxL := 5) (ret := (some .long)) (by decide) rfl ?_
  intro p e s m args below meth c s₁ B hml hv
  obtain ⟨rfl, -⟩ := hv
  have hx := B.exec
  have hb := B.bytes
  have hr := B.returns
  have hts : ∀ w ∈ AW, w.before _ s = true := fun w h => atoms_spec (ws := Cond.code yX5_less cX5_less 5 (some .long) :: AW) B.pre w (List.mem_cons_of_mem _ h)
  have hown : s.vm.findClass RX5 = some m.cls := findClass_of_methodNamed B.named
  have hlocks := B.notSynchronized
  have hl := lv_entry ([.int a, .long v, .long w]) (n := 5) (Nat.le_of_ble_eq_true rfl)
  rw [lg_entry_eq]
  generalize (lg_sl ([.int a, .long v, .long w]) ++ List.replicate (5 - (lg_sl ([.int a, .long v, .long w])).length) Slot.unset).toArray = ls at hl ⊢
  have hl : lv_has ls 5 [(0, .int a), (1, .long v), (3, .long w)] := hl
  refine lv_iload_n hx hb dX5_less_0 rfl (lv_at hl 0 rfl) ?_
  refine p_S (rest := []) hx hb hml hown hts (m_X5_isWhole l a) q643 q644 q26 q645 nX5_isWhole ⟨Nat.le_of_ble_eq_true rfl, Nat.le_of_ble_eq_true rfl⟩ hl.1 rfl rfl (Nat.le_of_ble_eq_true rfl) dX5_less_1 ⟨Nat.zero_le _, Nat.zero_le _⟩ blind_c (fun _ _ _ => trivial) ?_
  refine c_if_eq (tgt := 15) hx hb dX5_less_4 (by decide) (fun h1 => ?_) (fun h1 => ?_)
  · skip
    refine lv_iload_n hx hb dX5_less_15 rfl (lv_at hl 0 rfl) ?_
    refine lv_lload_n hx hb dX5_less_16 rfl (lv_at hl 1 rfl) ?_
    refine p_S (rest := []) hx hb hml hown hts (m_X5_isInfinite l a v) q649 q650 q26 q651 nX5_isInfinite ⟨Nat.le_of_ble_eq_true rfl, Nat.le_of_ble_eq_true rfl⟩ hl.1 rfl rfl (Nat.le_of_ble_eq_true rfl) dX5_less_17 ⟨Nat.zero_le _, Nat.zero_le _⟩ blind_c (fun _ _ _ => trivial) ?_
    refine c_if_eq (tgt := 31) hx hb dX5_less_20 (by decide) (fun h2 => ?_) (fun h2 => ?_)
    · skip
      refine lv_iload_n hx hb dX5_less_31 rfl (lv_at hl 0 rfl) ?_
      refine lv_iload_n hx hb dX5_less_32 rfl (lv_at hl 0 rfl) ?_
      refine lv_lload_n hx hb dX5_less_33 rfl (lv_at hl 1 rfl) ?_
      refine p_S (rest := [.int a]) hx hb hml hown hts (m_X5_real l a v (hF h1)) q654 q655 q26 q656 nX5_real ⟨Nat.le_of_ble_eq_true rfl, Nat.le_of_ble_eq_true rfl⟩ hl.1 rfl rfl (Nat.le_of_ble_eq_true rfl) dX5_less_34 ⟨Nat.zero_le _, Nat.zero_le _⟩ blind_c (fun _ _ _ => trivial) ?_
      refine lv_iload_n hx hb dX5_less_37 rfl (lv_at hl 0 rfl) ?_
      refine lv_lload_n hx hb dX5_less_38 rfl (lv_at hl 2 rfl) ?_
      refine p_S (rest := [.double (sX5_real a v), .int a]) hx hb hml hown hts (m_X5_real l a w (hG h1)) q654 q655 q26 q656 nX5_real ⟨Nat.le_of_ble_eq_true rfl, Nat.le_of_ble_eq_true rfl⟩ hl.1 rfl rfl (Nat.le_of_ble_eq_true rfl) dX5_less_39 ⟨Nat.zero_le _, Nat.zero_le _⟩ blind_c (fun _ _ _ => trivial) ?_
      refine lv_dsub hx hb dX5_less_42 (hM h1 (by first | exact Or.inl h2 | exact Or.inr h3)) ?_
      refine p_S (rest := []) hx hb hml hown hts (m_X5_bits l a (FP.dsub (sX5_real a v) (sX5_real a w)) (hM h1 (by first | exact Or.inl h2 | exact Or.inr h3))) q663 q664 q26 q665 nX5_bits ⟨Nat.le_of_ble_eq_true rfl, Nat.le_of_ble_eq_true rfl⟩ hl.1 rfl rfl (Nat.le_of_ble_eq_true rfl) dX5_less_43 ⟨Nat.zero_le _, Nat.zero_le _⟩ blind_c (fun _ _ _ => trivial) ?_
      exact W.lret hx hb hr (fun t ht hW => pq_l (by rw [sX5_less, if_pos h1, if_pos h2]) ht) nil_free dX5_less_46
    · skip
      refine lv_lload_n hx hb dX5_less_23 rfl (lv_at hl 1 rfl) ?_
      refine lv_lload_n hx hb dX5_less_24 rfl (lv_at hl 2 rfl) ?_
      refine c_lcmp_ne (tgt := 31) hx hb dX5_less_25 dX5_less_26 (by decide) (fun h3 => ?_) (fun h3 => ?_)
      · skip
        refine lv_iload_n hx hb dX5_less_31 rfl (lv_at hl 0 rfl) ?_
        refine lv_iload_n hx hb dX5_less_32 rfl (lv_at hl 0 rfl) ?_
        refine lv_lload_n hx hb dX5_less_33 rfl (lv_at hl 1 rfl) ?_
        refine p_S (rest := [.int a]) hx hb hml hown hts (m_X5_real l a v (hF h1)) q654 q655 q26 q656 nX5_real ⟨Nat.le_of_ble_eq_true rfl, Nat.le_of_ble_eq_true rfl⟩ hl.1 rfl rfl (Nat.le_of_ble_eq_true rfl) dX5_less_34 ⟨Nat.zero_le _, Nat.zero_le _⟩ blind_c (fun _ _ _ => trivial) ?_
        refine lv_iload_n hx hb dX5_less_37 rfl (lv_at hl 0 rfl) ?_
        refine lv_lload_n hx hb dX5_less_38 rfl (lv_at hl 2 rfl) ?_
        refine p_S (rest := [.double (sX5_real a v), .int a]) hx hb hml hown hts (m_X5_real l a w (hG h1)) q654 q655 q26 q656 nX5_real ⟨Nat.le_of_ble_eq_true rfl, Nat.le_of_ble_eq_true rfl⟩ hl.1 rfl rfl (Nat.le_of_ble_eq_true rfl) dX5_less_39 ⟨Nat.zero_le _, Nat.zero_le _⟩ blind_c (fun _ _ _ => trivial) ?_
        refine lv_dsub hx hb dX5_less_42 (hM h1 (by first | exact Or.inl h2 | exact Or.inr h3)) ?_
        refine p_S (rest := []) hx hb hml hown hts (m_X5_bits l a (FP.dsub (sX5_real a v) (sX5_real a w)) (hM h1 (by first | exact Or.inl h2 | exact Or.inr h3))) q663 q664 q26 q665 nX5_bits ⟨Nat.le_of_ble_eq_true rfl, Nat.le_of_ble_eq_true rfl⟩ hl.1 rfl rfl (Nat.le_of_ble_eq_true rfl) dX5_less_43 ⟨Nat.zero_le _, Nat.zero_le _⟩ blind_c (fun _ _ _ => trivial) ?_
        exact W.lret hx hb hr (fun t ht hW => pq_l (by rw [sX5_less, if_pos h1, if_neg h2, if_neg h3]) ht) nil_free dX5_less_46
      · skip
        refine lv_lconst (v := 0) hx hb dX5_less_29 (by decide) ?_
        exact W.lret hx hb hr (fun t ht hW => pq_l (by rw [sX5_less, if_pos h1, if_neg h2, if_pos h3]) ht) nil_free dX5_less_30
  · skip
    refine lv_iload_n hx hb dX5_less_7 rfl (lv_at hl 0 rfl) ?_
    refine lv_lload_n hx hb dX5_less_8 rfl (lv_at hl 1 rfl) ?_
    refine lv_lload_n hx hb dX5_less_9 rfl (lv_at hl 2 rfl) ?_
    refine lv_lsub hx hb dX5_less_10 ?_
    refine p_S (rest := []) hx hb hml hown hts (m_X5_wrapped l a (v - w)) q646 q647 q26 q648 nX5_wrapped ⟨Nat.le_of_ble_eq_true rfl, Nat.le_of_ble_eq_true rfl⟩ hl.1 rfl rfl (Nat.le_of_ble_eq_true rfl) dX5_less_11 ⟨Nat.zero_le _, Nat.zero_le _⟩ blind_c (fun _ _ _ => trivial) ?_
    exact W.lret hx hb hr (fun t ht hW => pq_l (by rw [sX5_less, if_neg h1]) ht) nil_free dX5_less_14
