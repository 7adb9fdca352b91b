theorem isB {g : Int32} (h : ¬ sX5_isBalance g = 0) : vp_in g 16 := by
  unfold sX5_isBalance at h
  by_cases h1 : g < 0
  · rw [if_pos h1] at h; exact absurd rfl h
  · rw [if_neg h1] at h
    by_cases h2 : g < 16
    · rw [vp_in_iff]
      have e1 : ¬ g.toInt < 0 := fun q => h1 (Int32.lt_iff_toInt_lt.mpr q)
      have e2 : g.toInt < 16 := Int32.lt_iff_toInt_lt.mp h2
      omega
    · rw [if_neg h2] at h; exact absurd rfl h
def sX5_does (σ : St) (a : Int32) (k : Int32) (b : Int32) (v : Int64) : Int64 := if a = (0 : Int32) then (sX5_size b v) else if a = (1 : Int32) then (sX5_cut b v (-1 : Int32)) else if a = (2 : Int32) then (sX5_cut b v (1 : Int32)) else if a = (3 : Int32) then (sX5_cut b v (0 : Int32)) else if a = (4 : Int32) then (sX5_signOf b v) else if a = (5 : Int32) then if (zNow σ k.toNatClampNeg) < (0 : Int64) then (sX5_turned b (sX5_size b v)) else (sX5_size b v) else if a = (6 : Int32) then (sX5_greater b v (zNow σ k.toNatClampNeg)) else if a = (7 : Int32) then (sX5_lesser b v (zNow σ k.toNatClampNeg)) else if a = (8 : Int32) then (sX5_step b v (k - (10 : Int32))) else if a = (9 : Int32) then (sX5_meet b v (zNow σ k.toNatClampNeg)) else if a = (10 : Int32) then (sX5_turned b v) else if a = (11 : Int32) then (sX5_greater b (zLst σ k.toNatClampNeg) (sX5_lesser b v (zGst σ k.toNatClampNeg))) else (sX5_part b v)
theorem nX5_does : yX5_does.cls ≠ "java/lang/invoke/MethodHandle" ∧ yX5_does.cls ≠ "java/lang/invoke/VarHandle" ∧ (parseMethodDescriptor yX5_does.desc).map (fun d => d.parameters.length) = some 4 := by decide +kernel
set_option maxHeartbeats 4000000 in
set_option maxRecDepth 100000 in
theorem m_X5_does (l : Launch) (D : va_G) (A : Nat → Prop) (cI cJ : ClassId) (ma : Nat → Nat) (th : Int32) (σ : St) (fr : va_W) (a : Int32) (k : Int32) (b : Int32) (v : Int64) (hF : sX5_isWhole b = 0 → okF b v) (hk5 : a = (5 : Int32) → vp_in k 16) (hk6 : a = (6 : Int32) → vp_in k 16) (hk7 : a = (7 : Int32) → vp_in k 16) (hk9 : a = (9 : Int32) → vp_in k 16) (hk11 : a = (11 : Int32) → vp_in k 16) (hp : a = (8 : Int32) → sX5_isWhole b = 0 → okP (k - 10)) (hm : a = (9 : Int32) → sX5_isWhole b = 0 → okF b (zNow σ k.toNatClampNeg)) (hd : a = (9 : Int32) → sX5_isWhole b = 0 → vf_n64 (FP.dadd (sX5_real b v) (sX5_real b (zNow σ k.toNatClampNeg)))) (hq : sX5_isWhole b = 0 → sX5_isInfinite b v = 0 → vf_n64 (FP.dsub (sX5_real b v) (sX5_real b (sX5_cut b v (-1 : Int32))))) : PM l yX5_does cX5_does 6 (some .long) 5 [.ref (ma 0), .int a, .int k, .int b, .long v] (mPre D A cI cJ (MW cI cJ ma th σ fr)) (.long (sX5_does σ a k b v)) := by
  refine Met.ofW (cc := cX5_does) (maxL := 6) (ret := (some .long)) (by decide) rfl ?_
  intro p e s m args below meth c s₁ B hml hv
  obtain ⟨rfl, hP, hK, hD⟩ := hv
  have hx := B.exec
  have hb := B.bytes
  have hr := B.returns
  have hts : ∀ w ∈ AW, w.before _ s = true := fun w h => atoms_spec (ws := Cond.code yX5_does cX5_does 6 (some .long) :: AW) B.pre w (List.mem_cons_of_mem _ h)
  have hown : s.vm.findClass RX5 = some m.cls := findClass_of_methodNamed B.named
  have hlocks := B.notSynchronized
  have hS : va_S A s.heap s.heap [] := va_S.rf
  have hl := lv_entry ([.ref (ma 0), .int a, .int k, .int b, .long v]) (n := 6) (Nat.le_of_ble_eq_true rfl)
  rw [lg_entry_eq]
  generalize (lg_sl ([.ref (ma 0), .int a, .int k, .int b, .long v]) ++ List.replicate (6 - (lg_sl ([.ref (ma 0), .int a, .int k, .int b, .long v])).length) Slot.unset).toArray = ls at hl ⊢
  have hl : lv_has ls 6 [(0, .ref (ma 0)), (1, .int a), (2, .int k), (3, .int b), (4, .long v)] := hl
  refine lv_iload_n hx hb dX5_does_0 rfl (lv_at hl 1 rfl) ?_
  by_cases h1 : a = (0 : Int32)
  · refine lv_tableIn (off := 63) (tgt := 64) hx hb dX5_does_1 (by rw [h1]; decide) (by rw [h1]; decide) (by rw [h1]; rfl) (by decide) ?_
    refine lv_iload_n hx hb dX5_does_64 rfl (lv_at hl 3 rfl) ?_
    refine lv_lload hx hb dX5_does_65 (lv_at hl 4 rfl) ?_
    refine p_S (rest := []) hx hb hml hown hts (m_X5_size l b v) q700 q701 q26 q702 nX5_size ⟨Nat.le_of_ble_eq_true rfl, Nat.le_of_ble_eq_true rfl⟩ hl.1 rfl rfl (Nat.le_of_ble_eq_true rfl) dX5_does_67 ⟨Nat.zero_le _, Nat.zero_le _⟩ blind_c (fun _ _ _ => trivial) ?_
    exact W.lret hx hb hr (fun t ht hW => pq_l (by rw [sX5_does, if_pos h1]) ht) nil_free dX5_does_70
  by_cases h2 : a = (1 : Int32)
  · refine lv_tableIn (off := 70) (tgt := 71) hx hb dX5_does_1 (by rw [h2]; decide) (by rw [h2]; decide) (by rw [h2]; rfl) (by decide) ?_
    refine lv_iload_n hx hb dX5_does_71 rfl (lv_at hl 3 rfl) ?_
    refine lv_lload hx hb dX5_does_72 (lv_at hl 4 rfl) ?_
    refine lv_iconst (v := -1) hx hb dX5_does_74 (by decide) ?_
    refine p_S (rest := []) hx hb hml hown hts (m_X5_cut l b v (-1 : Int32) (hF)) q745 q746 q26 q747 nX5_cut ⟨Nat.le_of_ble_eq_true rfl, Nat.le_of_ble_eq_true rfl⟩ hl.1 rfl rfl (Nat.le_of_ble_eq_true rfl) dX5_does_75 ⟨Nat.zero_le _, Nat.zero_le _⟩ blind_c (fun _ _ _ => trivial) ?_
    exact W.lret hx hb hr (fun t ht hW => pq_l (by rw [sX5_does, if_neg h1, if_pos h2]) ht) nil_free dX5_does_78
  by_cases h3 : a = (2 : Int32)
  · refine lv_tableIn (off := 78) (tgt := 79) hx hb dX5_does_1 (by rw [h3]; decide) (by rw [h3]; decide) (by rw [h3]; rfl) (by decide) ?_
    refine lv_iload_n hx hb dX5_does_79 rfl (lv_at hl 3 rfl) ?_
    refine lv_lload hx hb dX5_does_80 (lv_at hl 4 rfl) ?_
    refine lv_iconst (v := 1) hx hb dX5_does_82 (by decide) ?_
    refine p_S (rest := []) hx hb hml hown hts (m_X5_cut l b v (1 : Int32) (hF)) q745 q746 q26 q747 nX5_cut ⟨Nat.le_of_ble_eq_true rfl, Nat.le_of_ble_eq_true rfl⟩ hl.1 rfl rfl (Nat.le_of_ble_eq_true rfl) dX5_does_83 ⟨Nat.zero_le _, Nat.zero_le _⟩ blind_c (fun _ _ _ => trivial) ?_
    exact W.lret hx hb hr (fun t ht hW => pq_l (by rw [sX5_does, if_neg h1, if_neg h2, if_pos h3]) ht) nil_free dX5_does_86
  by_cases h4 : a = (3 : Int32)
  · refine lv_tableIn (off := 86) (tgt := 87) hx hb dX5_does_1 (by rw [h4]; decide) (by rw [h4]; decide) (by rw [h4]; rfl) (by decide) ?_
    refine lv_iload_n hx hb dX5_does_87 rfl (lv_at hl 3 rfl) ?_
    refine lv_lload hx hb dX5_does_88 (lv_at hl 4 rfl) ?_
    refine lv_iconst (v := 0) hx hb dX5_does_90 (by decide) ?_
    refine p_S (rest := []) hx hb hml hown hts (m_X5_cut l b v (0 : Int32) (hF)) q745 q746 q26 q747 nX5_cut ⟨Nat.le_of_ble_eq_true rfl, Nat.le_of_ble_eq_true rfl⟩ hl.1 rfl rfl (Nat.le_of_ble_eq_true rfl) dX5_does_91 ⟨Nat.zero_le _, Nat.zero_le _⟩ blind_c (fun _ _ _ => trivial) ?_
    exact W.lret hx hb hr (fun t ht hW => pq_l (by rw [sX5_does, if_neg h1, if_neg h2, if_neg h3, if_pos h4]) ht) nil_free dX5_does_94
  by_cases h5 : a = (4 : Int32)
  · refine lv_tableIn (off := 94) (tgt := 95) hx hb dX5_does_1 (by rw [h5]; decide) (by rw [h5]; decide) (by rw [h5]; rfl) (by decide) ?_
    refine lv_iload_n hx hb dX5_does_95 rfl (lv_at hl 3 rfl) ?_
    refine lv_lload hx hb dX5_does_96 (lv_at hl 4 rfl) ?_
    refine p_S (rest := []) hx hb hml hown hts (m_X5_signOf l b v) q686 q687 q26 q688 nX5_signOf ⟨Nat.le_of_ble_eq_true rfl, Nat.le_of_ble_eq_true rfl⟩ hl.1 rfl rfl (Nat.le_of_ble_eq_true rfl) dX5_does_98 ⟨Nat.zero_le _, Nat.zero_le _⟩ blind_c (fun _ _ _ => trivial) ?_
    exact W.lret hx hb hr (fun t ht hW => pq_l (by rw [sX5_does, if_neg h1, if_neg h2, if_neg h3, if_neg h4, if_pos h5]) ht) nil_free dX5_does_101
  by_cases h6 : a = (5 : Int32)
  · refine lv_tableIn (off := 101) (tgt := 102) hx hb dX5_does_1 (by rw [h6]; decide) (by rw [h6]; decide) (by rw [h6]; rfl) (by decide) ?_
    refine lv_aload_n hx hb dX5_does_102 rfl (lv_at hl 0 rfl) ?_
    refine va_get (v := .ref (ma 2)) (C := RX5) (T := TX5) (N := 11) (ci := 5) hx hb hts inX5 hown hK hP 0 rfl rfl 2 (by decide) (hts _ q585) (fun _ h => h) rfl dX5_does_103 ?_
    refine lv_iload_n hx hb dX5_does_106 rfl (lv_at hl 2 rfl) ?_
    refine va_lald (f := (zNow σ)) hx hb hK hP 2 1 rfl rfl (hk5 (by assumption)) dX5_does_107 ?_
    refine lv_lconst (v := 0) hx hb dX5_does_108 (by decide) ?_
    refine c_lcmp_ge (tgt := 126) hx hb dX5_does_109 dX5_does_110 (by decide) (fun h7 => ?_) (fun h7 => ?_)
    · skip
      refine lv_iload_n hx hb dX5_does_126 rfl (lv_at hl 3 rfl) ?_
      refine lv_lload hx hb dX5_does_127 (lv_at hl 4 rfl) ?_
      refine p_S (rest := []) hx hb hml hown hts (m_X5_size l b v) q700 q701 q26 q702 nX5_size ⟨Nat.le_of_ble_eq_true rfl, Nat.le_of_ble_eq_true rfl⟩ hl.1 rfl rfl (Nat.le_of_ble_eq_true rfl) dX5_does_129 ⟨Nat.zero_le _, Nat.zero_le _⟩ blind_c (fun _ _ _ => trivial) ?_
      exact W.lret hx hb hr (fun t ht hW => pq_l (by rw [sX5_does, if_neg h1, if_neg h2, if_neg h3, if_neg h4, if_neg h5, if_pos h6, if_neg h7]) ht) nil_free dX5_does_132
    · skip
      refine lv_iload_n hx hb dX5_does_113 rfl (lv_at hl 3 rfl) ?_
      refine lv_iload_n hx hb dX5_does_114 rfl (lv_at hl 3 rfl) ?_
      refine lv_lload hx hb dX5_does_115 (lv_at hl 4 rfl) ?_
      refine p_S (rest := [.int b]) hx hb hml hown hts (m_X5_size l b v) q700 q701 q26 q702 nX5_size ⟨Nat.le_of_ble_eq_true rfl, Nat.le_of_ble_eq_true rfl⟩ hl.1 rfl rfl (Nat.le_of_ble_eq_true rfl) dX5_does_117 ⟨Nat.zero_le _, Nat.zero_le _⟩ blind_c (fun _ _ _ => trivial) ?_
      refine p_S (rest := []) hx hb hml hown hts (m_X5_turned l b (sX5_size b v)) q695 q696 q26 q697 nX5_turned ⟨Nat.le_of_ble_eq_true rfl, Nat.le_of_ble_eq_true rfl⟩ hl.1 rfl rfl (Nat.le_of_ble_eq_true rfl) dX5_does_120 ⟨Nat.zero_le _, Nat.zero_le _⟩ blind_c (fun _ _ _ => trivial) ?_
      refine lv_goto (tgt := 132) hx hb dX5_does_123 (by decide) ?_
      exact W.lret hx hb hr (fun t ht hW => pq_l (by rw [sX5_does, if_neg h1, if_neg h2, if_neg h3, if_neg h4, if_neg h5, if_pos h6, if_pos h7]) ht) nil_free dX5_does_132
  by_cases h8 : a = (6 : Int32)
  · refine lv_tableIn (off := 132) (tgt := 133) hx hb dX5_does_1 (by rw [h8]; decide) (by rw [h8]; decide) (by rw [h8]; rfl) (by decide) ?_
    refine lv_iload_n hx hb dX5_does_133 rfl (lv_at hl 3 rfl) ?_
    refine lv_lload hx hb dX5_does_134 (lv_at hl 4 rfl) ?_
    refine lv_aload_n hx hb dX5_does_136 rfl (lv_at hl 0 rfl) ?_
    refine va_get (v := .ref (ma 2)) (C := RX5) (T := TX5) (N := 11) (ci := 5) hx hb hts inX5 hown hK hP 0 rfl rfl 2 (by decide) (hts _ q585) (fun _ h => h) rfl dX5_does_137 ?_
    refine lv_iload_n hx hb dX5_does_140 rfl (lv_at hl 2 rfl) ?_
    refine va_lald (f := (zNow σ)) hx hb hK hP 2 1 rfl rfl (hk6 (by assumption)) dX5_does_141 ?_
    refine p_S (rest := []) hx hb hml hown hts (m_X5_greater l b v (zNow σ k.toNatClampNeg)) q703 q704 q26 q705 nX5_greater ⟨Nat.le_of_ble_eq_true rfl, Nat.le_of_ble_eq_true rfl⟩ hl.1 rfl rfl (Nat.le_of_ble_eq_true rfl) dX5_does_142 ⟨Nat.zero_le _, Nat.zero_le _⟩ blind_c (fun _ _ _ => trivial) ?_
    exact W.lret hx hb hr (fun t ht hW => pq_l (by rw [sX5_does, if_neg h1, if_neg h2, if_neg h3, if_neg h4, if_neg h5, if_neg h6, if_pos h8]) ht) nil_free dX5_does_145
  by_cases h9 : a = (7 : Int32)
  · refine lv_tableIn (off := 145) (tgt := 146) hx hb dX5_does_1 (by rw [h9]; decide) (by rw [h9]; decide) (by rw [h9]; rfl) (by decide) ?_
    refine lv_iload_n hx hb dX5_does_146 rfl (lv_at hl 3 rfl) ?_
    refine lv_lload hx hb dX5_does_147 (lv_at hl 4 rfl) ?_
    refine lv_aload_n hx hb dX5_does_149 rfl (lv_at hl 0 rfl) ?_
    refine va_get (v := .ref (ma 2)) (C := RX5) (T := TX5) (N := 11) (ci := 5) hx hb hts inX5 hown hK hP 0 rfl rfl 2 (by decide) (hts _ q585) (fun _ h => h) rfl dX5_does_150 ?_
    refine lv_iload_n hx hb dX5_does_153 rfl (lv_at hl 2 rfl) ?_
    refine va_lald (f := (zNow σ)) hx hb hK hP 2 1 rfl rfl (hk7 (by assumption)) dX5_does_154 ?_
    refine p_S (rest := []) hx hb hml hown hts (m_X5_lesser l b v (zNow σ k.toNatClampNeg)) q709 q710 q26 q711 nX5_lesser ⟨Nat.le_of_ble_eq_true rfl, Nat.le_of_ble_eq_true rfl⟩ hl.1 rfl rfl (Nat.le_of_ble_eq_true rfl) dX5_does_155 ⟨Nat.zero_le _, Nat.zero_le _⟩ blind_c (fun _ _ _ => trivial) ?_
    exact W.lret hx hb hr (fun t ht hW => pq_l (by rw [sX5_does, if_neg h1, if_neg h2, if_neg h3, if_neg h4, if_neg h5, if_neg h6, if_neg h8, if_pos h9]) ht) nil_free dX5_does_158
  by_cases h10 : a = (8 : Int32)
  · refine lv_tableIn (off := 158) (tgt := 159) hx hb dX5_does_1 (by rw [h10]; decide) (by rw [h10]; decide) (by rw [h10]; rfl) (by decide) ?_
    refine lv_iload_n hx hb dX5_does_159 rfl (lv_at hl 3 rfl) ?_
    refine lv_lload hx hb dX5_does_160 (lv_at hl 4 rfl) ?_
    refine lv_iload_n hx hb dX5_does_162 rfl (lv_at hl 2 rfl) ?_
    refine lv_bipush (v := 10) hx hb dX5_does_163 (by decide) ?_
    refine lv_isub hx hb dX5_does_165 ?_
    refine p_S (rest := []) hx hb hml hown hts (m_X5_step l b v (k - (10 : Int32)) (hF) (hp (by assumption))) q755 q756 q26 q757 nX5_step ⟨Nat.le_of_ble_eq_true rfl, Nat.le_of_ble_eq_true rfl⟩ hl.1 rfl rfl (Nat.le_of_ble_eq_true rfl) dX5_does_166 ⟨Nat.zero_le _, Nat.zero_le _⟩ blind_c (fun _ _ _ => trivial) ?_
    exact W.lret hx hb hr (fun t ht hW => pq_l (by rw [sX5_does, if_neg h1, if_neg h2, if_neg h3, if_neg h4, if_neg h5, if_neg h6, if_neg h8, if_neg h9, if_pos h10]) ht) nil_free dX5_does_169
  by_cases h11 : a = (9 : Int32)
  · refine lv_tableIn (off := 169) (tgt := 170) hx hb dX5_does_1 (by rw [h11]; decide) (by rw [h11]; decide) (by rw [h11]; rfl) (by decide) ?_
    refine lv_iload_n hx hb dX5_does_170 rfl (lv_at hl 3 rfl) ?_
    refine lv_lload hx hb dX5_does_171 (lv_at hl 4 rfl) ?_
    refine lv_aload_n hx hb dX5_does_173 rfl (lv_at hl 0 rfl) ?_
    refine va_get (v := .ref (ma 2)) (C := RX5) (T := TX5) (N := 11) (ci := 5) hx hb hts inX5 hown hK hP 0 rfl rfl 2 (by decide) (hts _ q585) (fun _ h => h) rfl dX5_does_174 ?_
    refine lv_iload_n hx hb dX5_does_177 rfl (lv_at hl 2 rfl) ?_
    refine va_lald (f := (zNow σ)) hx hb hK hP 2 1 rfl rfl (hk9 (by assumption)) dX5_does_178 ?_
    refine p_S (rest := []) hx hb hml hown hts (m_X5_meet l b v (zNow σ k.toNatClampNeg) (hF) (hm (by assumption)) (hd (by assumption))) q761 q762 q26 q763 nX5_meet ⟨Nat.le_of_ble_eq_true rfl, Nat.le_of_ble_eq_true rfl⟩ hl.1 rfl rfl (Nat.le_of_ble_eq_true rfl) dX5_does_179 ⟨Nat.zero_le _, Nat.zero_le _⟩ blind_c (fun _ _ _ => trivial) ?_
    exact W.lret hx hb hr (fun t ht hW => pq_l (by rw [sX5_does, if_neg h1, if_neg h2, if_neg h3, if_neg h4, if_neg h5, if_neg h6, if_neg h8, if_neg h9, if_neg h10, if_pos h11]) ht) nil_free dX5_does_182
  by_cases h12 : a = (10 : Int32)
  · refine lv_tableIn (off := 182) (tgt := 183) hx hb dX5_does_1 (by rw [h12]; decide) (by rw [h12]; decide) (by rw [h12]; rfl) (by decide) ?_
    refine lv_iload_n hx hb dX5_does_183 rfl (lv_at hl 3 rfl) ?_
    refine lv_lload hx hb dX5_does_184 (lv_at hl 4 rfl) ?_
    refine p_S (rest := []) hx hb hml hown hts (m_X5_turned l b v) q695 q696 q26 q697 nX5_turned ⟨Nat.le_of_ble_eq_true rfl, Nat.le_of_ble_eq_true rfl⟩ hl.1 rfl rfl (Nat.le_of_ble_eq_true rfl) dX5_does_186 ⟨Nat.zero_le _, Nat.zero_le _⟩ blind_c (fun _ _ _ => trivial) ?_
    exact W.lret hx hb hr (fun t ht hW => pq_l (by rw [sX5_does, if_neg h1, if_neg h2, if_neg h3, if_neg h4, if_neg h5, if_neg h6, if_neg h8, if_neg h9, if_neg h10, if_neg h11, if_pos h12]) ht) nil_free dX5_does_189
  by_cases h13 : a = (11 : Int32)
  · refine lv_tableIn (off := 189) (tgt := 190) hx hb dX5_does_1 (by rw [h13]; decide) (by rw [h13]; decide) (by rw [h13]; rfl) (by decide) ?_
    refine lv_iload_n hx hb dX5_does_190 rfl (lv_at hl 3 rfl) ?_
    refine lv_aload_n hx hb dX5_does_191 rfl (lv_at hl 0 rfl) ?_
    refine va_get (v := .ref (ma 3)) (C := RX5) (T := TX5) (N := 11) (ci := 5) hx hb hts inX5 hown hK hP 0 rfl rfl 3 (by decide) (hts _ q586) (fun _ h => h) rfl dX5_does_192 ?_
    refine lv_iload_n hx hb dX5_does_195 rfl (lv_at hl 2 rfl) ?_
    refine va_lald (f := (zLst σ)) hx hb hK hP 3 1 rfl rfl (hk11 (by assumption)) dX5_does_196 ?_
    refine lv_iload_n hx hb dX5_does_197 rfl (lv_at hl 3 rfl) ?_
    refine lv_lload hx hb dX5_does_198 (lv_at hl 4 rfl) ?_
    refine lv_aload_n hx hb dX5_does_200 rfl (lv_at hl 0 rfl) ?_
    refine va_get (v := .ref (ma 4)) (C := RX5) (T := TX5) (N := 11) (ci := 5) hx hb hts inX5 hown hK hP 0 rfl rfl 4 (by decide) (hts _ q587) (fun _ h => h) rfl dX5_does_201 ?_
    refine lv_iload_n hx hb dX5_does_204 rfl (lv_at hl 2 rfl) ?_
    refine va_lald (f := (zGst σ)) hx hb hK hP 4 1 rfl rfl (hk11 (by assumption)) dX5_does_205 ?_
    refine p_S (rest := [.long (zLst σ k.toNatClampNeg), .int b]) hx hb hml hown hts (m_X5_lesser l b v (zGst σ k.toNatClampNeg)) q709 q710 q26 q711 nX5_lesser ⟨Nat.le_of_ble_eq_true rfl, Nat.le_of_ble_eq_true rfl⟩ hl.1 rfl rfl (Nat.le_of_ble_eq_true rfl) dX5_does_206 ⟨Nat.zero_le _, Nat.zero_le _⟩ blind_c (fun _ _ _ => trivial) ?_
    refine p_S (rest := []) hx hb hml hown hts (m_X5_greater l b (zLst σ k.toNatClampNeg) (sX5_lesser b v (zGst σ k.toNatClampNeg))) q703 q704 q26 q705 nX5_greater ⟨Nat.le_of_ble_eq_true rfl, Nat.le_of_ble_eq_true rfl⟩ hl.1 rfl rfl (Nat.le_of_ble_eq_true rfl) dX5_does_209 ⟨Nat.zero_le _, Nat.zero_le _⟩ blind_c (fun _ _ _ => trivial) ?_
    exact W.lret hx hb hr (fun t ht hW => pq_l (by rw [sX5_does, if_neg h1, if_neg h2, if_neg h3, if_neg h4, if_neg h5, if_neg h6, if_neg h8, if_neg h9, if_neg h10, if_neg h11, if_neg h12, if_pos h13]) ht) nil_free dX5_does_212
  have h1N := lv_neT (a := 0) h1 (by decide)
  have h2N := lv_neT (a := 1) h2 (by decide)
  have h3N := lv_neT (a := 2) h3 (by decide)
  have h4N := lv_neT (a := 3) h4 (by decide)
  have h5N := lv_neT (a := 4) h5 (by decide)
  have h6N := lv_neT (a := 5) h6 (by decide)
  have h8N := lv_neT (a := 6) h8 (by decide)
  have h9N := lv_neT (a := 7) h9 (by decide)
  have h10N := lv_neT (a := 8) h10 (by decide)
  have h11N := lv_neT (a := 9) h11 (by decide)
  have h12N := lv_neT (a := 10) h12 (by decide)
  have h13N := lv_neT (a := 11) h13 (by decide)
  refine lv_tableOut (tgt := 213) hx hb dX5_does_1 (by omega) (by decide) ?_
  refine lv_iload_n hx hb dX5_does_213 rfl (lv_at hl 3 rfl) ?_
  refine lv_lload hx hb dX5_does_214 (lv_at hl 4 rfl) ?_
  refine p_S (rest := []) hx hb hml hown hts (m_X5_part l b v (hF) (hq)) q764 q765 q26 q766 nX5_part ⟨Nat.le_of_ble_eq_true rfl, Nat.le_of_ble_eq_true rfl⟩ hl.1 rfl rfl (Nat.le_of_ble_eq_true rfl) dX5_does_216 ⟨Nat.zero_le _, Nat.zero_le _⟩ blind_c (fun _ _ _ => trivial) ?_
  exact W.lret hx hb hr (fun t ht hW => pq_l (by rw [sX5_does, if_neg h1, if_neg h2, if_neg h3, if_neg h4, if_neg h5, if_neg h6, if_neg h8, if_neg h9, if_neg h10, if_neg h11, if_neg h12, if_neg h13]) ht) nil_free dX5_does_219
def sX5_reach_j1 (σ : St) (a : Int32) (b : Int32) : Int32 := (if (sX5_isBalance a) = 0 then (1 : Int32) else (if (sX5_isBalance b) = 0 then (1 : Int32) else (if (a / (4 : Int32)) = (b / (4 : Int32)) then (if (zCnt σ a.toNatClampNeg) = 0 then (2 : Int32) else (if (zCnt σ b.toNatClampNeg) = 0 then (2 : Int32) else (0 : Int32))) else (2 : Int32))))
def sX5_reach_e2 (σ : St) (a : Int32) (b : Int32) : Int64 := (sX5_size (a / (4 : Int32)) (zNow σ a.toNatClampNeg))
def sX5_reach_e3 (σ : St) (a : Int32) (b : Int32) : Int64 := (sX5_size (a / (4 : Int32)) (zNow σ b.toNatClampNeg))
def sX5_reach_e4 (σ : St) (a : Int32) (b : Int32) : Int64 := (sX5_greater (a / (4 : Int32)) (sX5_reach_e2 σ a b) (sX5_reach_e3 σ a b))
def sX5_reach_e5 (σ : St) (a : Int32) (b : Int32) : Int64 := (sX5_lesser (a / (4 : Int32)) (sX5_reach_e2 σ a b) (sX5_reach_e3 σ a b))
def sX5_reach_e6 (σ : St) (a : Int32) (b : Int32) : Int64 := (sX5_bits (a / (4 : Int32)) (FP.dmul (sX5_real (a / (4 : Int32)) (sX5_reach_e5 σ a b)) (4602678819172646912 : UInt64)))
def sX5_reach (σ : St) (a : Int32) (b : Int32) : Int64 := if 0 < (sX5_reach_j1 σ a b) then (0 : Int64) else if (sX5_isWhole (a / (4 : Int32))) = 0 then (sX5_bits (a / (4 : Int32)) (FP.dadd (sX5_real (a / (4 : Int32)) (sX5_reach_e4 σ a b)) (sX5_real (a / (4 : Int32)) (sX5_reach_e6 σ a b)))) else (sX5_wrapped (a / (4 : Int32)) ((sX5_reach_e4 σ a b) + ((sX5_reach_e5 σ a b) >>> ((1 : Int32).toInt64 &&& 63))))
def hX5_reach (th : Int32) (σ : St) (a : Int32) (b : Int32) : Int32 := if 0 < (sX5_reach_j1 σ a b) then (sX5_reach_j1 σ a b) else if (sX5_isWhole (a / (4 : Int32))) = 0 then (sX5_reach_j1 σ a b) else (sX5_reach_j1 σ a b)
def tX5_reach (σ : St) (a : Int32) (b : Int32) : St := if 0 < (sX5_reach_j1 σ a b) then σ else if (sX5_isWhole (a / (4 : Int32))) = 0 then σ else σ
theorem nX5_reach : yX5_reach.cls ≠ "java/lang/invoke/MethodHandle" ∧ yX5_reach.cls ≠ "java/lang/invoke/VarHandle" ∧ (parseMethodDescriptor yX5_reach.desc).map (fun d => d.parameters.length) = some 2 := by decide +kernel
set_option maxHeartbeats 4000000 in
set_option maxRecDepth 100000 in
theorem m_X5_reach (l : Launch) (D : va_G) (A : Nat → Prop) (cI cJ : ClassId) (ma : Nat → Nat) (th : Int32) (σ : St) (fr : va_W) (a : Int32) (b : Int32) (ha : ¬ 0 < sX5_reach_j1 σ a b → vp_in a 16) (hb2 : ¬ 0 < sX5_reach_j1 σ a b → vp_in b 16) (hO : ¬ 0 < sX5_reach_j1 σ a b → sX5_isWhole (a / 4) = 0 → okF (a / 4) (sX5_reach_e5 σ a b)) (hM : ¬ 0 < sX5_reach_j1 σ a b → sX5_isWhole (a / 4) = 0 → okF (a / 4) (sX5_reach_e4 σ a b)) (hA : ¬ 0 < sX5_reach_j1 σ a b → sX5_isWhole (a / 4) = 0 → vf_n64 (FP.dadd (sX5_real (a / 4) (sX5_reach_e4 σ a b)) (sX5_real (a / 4) (sX5_reach_e6 σ a b)))) : IM l yX5_reach cX5_reach 14 (some .long) 4 [.ref (ma 0), .int a, .int b] (mPre D A cI cJ (MW cI cJ ma th σ fr)) D A (some (.long (sX5_reach σ a b))) (MW cI cJ ma (hX5_reach th σ a b) (tX5_reach σ a b) fr) := by
  refine Met.ofW (cc := cX5_reach) (maxL := 14) (ret := (some .long)) (by decide) rfl ?_
  intro p e s m args below meth c s₁ B hml hv
  obtain ⟨rfl, hP, hK, hD⟩ := hv
  have hx := B.exec
  have hb := B.bytes
  have hr := B.returns
  have hts : ∀ w ∈ AW, w.before _ s = true := fun w h => atoms_spec (ws := Cond.code yX5_reach cX5_reach 14 (some .long) :: AW) B.pre w (List.mem_cons_of_mem _ h)
  have hown : s.vm.findClass RX5 = some m.cls := findClass_of_methodNamed B.named
  have hlocks := B.notSynchronized
  have hS : va_S A s.heap s.heap [] := va_S.rf
  have hl := lv_entry ([.ref (ma 0), .int a, .int b]) (n := 14) (Nat.le_of_ble_eq_true rfl)
  rw [lg_entry_eq]
  generalize (lg_sl ([.ref (ma 0), .int a, .int b]) ++ List.replicate (14 - (lg_sl ([.ref (ma 0), .int a, .int b])).length) Slot.unset).toArray = ls at hl ⊢
  have hl : lv_has ls 14 [(0, .ref (ma 0)), (1, .int a), (2, .int b)] := hl
  refine lv_aload_n hx hb dX5_reach_0 rfl (lv_at hl 0 rfl) ?_
  refine lv_iload_n hx hb dX5_reach_1 rfl (lv_at hl 1 rfl) ?_
  refine p_S (rest := [.ref (ma 0)]) hx hb hml hown hts (m_X5_isBalance l a) q626 q627 q26 q628 nX5_isBalance ⟨Nat.le_of_ble_eq_true rfl, Nat.le_of_ble_eq_true rfl⟩ hl.1 rfl rfl (Nat.le_of_ble_eq_true rfl) dX5_reach_2 ⟨Nat.zero_le _, Nat.zero_le _⟩ blind_c (fun _ _ _ => trivial) ?_
  refine p_join (J := 51) (nL := 14) (st := [.int (sX5_reach_j1 σ a b), .ref (ma 0)]) (lv := [(0, .ref (ma 0)), (1, .int a), (2, .int b)]) (fun ls hl => ?_) (fun K1 => ?_)
  rotate_left
  · refine c_if_eq (tgt := 15) hx hb dX5_reach_5 (by decide) (fun h1 => ?_) (fun h1 => ?_)
    · skip
      refine lv_iconst (v := 1) hx hb dX5_reach_15 (by decide) ?_
      refine lv_goto (tgt := 51) hx hb dX5_reach_16 (by decide) ?_
      simp only [sX5_reach_j1, if_pos h1] at K1
      exact K1 ls (lv_sub hl [0, 1, 2] rfl)
    · skip
      refine lv_iload_n hx hb dX5_reach_8 rfl (lv_at hl 2 rfl) ?_
      refine p_S (rest := [.ref (ma 0)]) hx hb hml hown hts (m_X5_isBalance l b) q626 q627 q26 q628 nX5_isBalance ⟨Nat.le_of_ble_eq_true rfl, Nat.le_of_ble_eq_true rfl⟩ hl.1 rfl rfl (Nat.le_of_ble_eq_true rfl) dX5_reach_9 ⟨Nat.zero_le _, Nat.zero_le _⟩ blind_c (fun _ _ _ => trivial) ?_
      refine c_if_ne (tgt := 19) hx hb dX5_reach_12 (by decide) (fun h2 => ?_) (fun h2 => ?_)
      · skip
        refine lv_iload_n hx hb dX5_reach_19 rfl (lv_at hl 1 rfl) ?_
        refine lv_iconst (v := 4) hx hb dX5_reach_20 (by decide) ?_
        refine lv_idiv hx hb dX5_reach_21 (by decide) ?_
        refine lv_iload_n hx hb dX5_reach_22 rfl (lv_at hl 2 rfl) ?_
        refine lv_iconst (v := 4) hx hb dX5_reach_23 (by decide) ?_
        refine lv_idiv hx hb dX5_reach_24 (by decide) ?_
        refine c_icmp_ne (tgt := 46) hx hb dX5_reach_25 (by decide) (fun h3 => ?_) (fun h3 => ?_)
        · skip
          refine lv_iconst (v := 2) hx hb dX5_reach_46 (by decide) ?_
          refine lv_goto (tgt := 51) hx hb dX5_reach_47 (by decide) ?_
          simp only [sX5_reach_j1, if_neg h1, if_neg h2, if_neg h3] at K1
          exact K1 ls (lv_sub hl [0, 1, 2] rfl)
        · skip
          refine lv_aload_n hx hb dX5_reach_28 rfl (lv_at hl 0 rfl) ?_
          refine va_get (v := .ref (ma 1)) (C := RX5) (T := TX5) (N := 11) (ci := 5) hx hb hts inX5 hown hK hP 0 rfl rfl 1 (by decide) (hts _ q584) (fun _ h => h) rfl dX5_reach_29 ?_
          refine lv_iload_n hx hb dX5_reach_32 rfl (lv_at hl 1 rfl) ?_
          refine va_iald (f := (zCnt σ)) hx hb hK hP 1 0 rfl rfl (isB (by assumption)) dX5_reach_33 ?_
          refine c_if_eq (tgt := 46) hx hb dX5_reach_34 (by decide) (fun h4 => ?_) (fun h4 => ?_)
          · skip
            refine lv_iconst (v := 2) hx hb dX5_reach_46 (by decide) ?_
            refine lv_goto (tgt := 51) hx hb dX5_reach_47 (by decide) ?_
            simp only [sX5_reach_j1, if_neg h1, if_neg h2, if_pos h3, if_pos h4] at K1
            exact K1 ls (lv_sub hl [0, 1, 2] rfl)
          · skip
            refine lv_aload_n hx hb dX5_reach_37 rfl (lv_at hl 0 rfl) ?_
            refine va_get (v := .ref (ma 1)) (C := RX5) (T := TX5) (N := 11) (ci := 5) hx hb hts inX5 hown hK hP 0 rfl rfl 1 (by decide) (hts _ q584) (fun _ h => h) rfl dX5_reach_38 ?_
            refine lv_iload_n hx hb dX5_reach_41 rfl (lv_at hl 2 rfl) ?_
            refine va_iald (f := (zCnt σ)) hx hb hK hP 1 0 rfl rfl (isB (by assumption)) dX5_reach_42 ?_
            refine c_if_ne (tgt := 50) hx hb dX5_reach_43 (by decide) (fun h5 => ?_) (fun h5 => ?_)
            · skip
              refine lv_iconst (v := 0) hx hb dX5_reach_50 (by decide) ?_
              simp only [sX5_reach_j1, if_neg h1, if_neg h2, if_pos h3, if_neg h4, if_neg h5] at K1
              exact K1 ls (lv_sub hl [0, 1, 2] rfl)
            · skip
              refine lv_iconst (v := 2) hx hb dX5_reach_46 (by decide) ?_
              refine lv_goto (tgt := 51) hx hb dX5_reach_47 (by decide) ?_
              simp only [sX5_reach_j1, if_neg h1, if_neg h2, if_pos h3, if_neg h4, if_pos h5] at K1
              exact K1 ls (lv_sub hl [0, 1, 2] rfl)
      · skip
        refine lv_iconst (v := 1) hx hb dX5_reach_15 (by decide) ?_
        refine lv_goto (tgt := 51) hx hb dX5_reach_16 (by decide) ?_
        simp only [sX5_reach_j1, if_neg h1, if_pos h2] at K1
        exact K1 ls (lv_sub hl [0, 1, 2] rfl)
  refine va_put (C := RX5) (T := TX5) (N := 11) (ci := 5) (ty := .int) hx hb hts inX5 tyX5 tyX5_ok nmX5 hown hK hP hD hS 0 rfl rfl 0 (by decide) (hts _ q583) (fun _ h => h) rfl rfl rfl rfl (Nat.le_of_ble_eq_true rfl) dX5_reach_51 (fun H locs hP hD hS => ?_)
  have hP : va_P D vwCl (MW cI cJ ma (sX5_reach_j1 σ a b) σ fr) H := hP
  have hD : va_D A (MW cI cJ ma (sX5_reach_j1 σ a b) σ fr) := hD
  refine lv_aload_n hx hb dX5_reach_54 rfl (lv_at hl 0 rfl) ?_
  refine va_get (v := .int (sX5_reach_j1 σ a b)) (C := RX5) (T := TX5) (N := 11) (ci := 5) hx hb hts inX5 hown hK hP 0 rfl rfl 0 (by decide) (hts _ q583) (fun _ h => h) rfl dX5_reach_55 ?_
  refine c_if_le (tgt := 63) hx hb dX5_reach_58 (by decide) (fun h6 => ?_) (fun h6 => ?_)
  · skip
    refine lv_iload_n hx hb dX5_reach_63 rfl (lv_at hl 1 rfl) ?_
    refine lv_iconst (v := 4) hx hb dX5_reach_64 (by decide) ?_
    refine lv_idiv hx hb dX5_reach_65 (by decide) ?_
    refine lv_istore_n (lv' := [(3, .int (a / (4 : Int32))), (0, .ref (ma 0)), (1, .int a), (2, .int b)]) hx hb dX5_reach_66 rfl hl (by decide) rfl (fun ls hl => ?_)
    refine lv_iload_n hx hb dX5_reach_67 rfl (lv_at hl 0 rfl) ?_
    refine lv_aload_n hx hb dX5_reach_68 rfl (lv_at hl 1 rfl) ?_
    refine va_get (v := .ref (ma 2)) (C := RX5) (T := TX5) (N := 11) (ci := 5) hx hb hts inX5 hown hK hP 0 rfl rfl 2 (by decide) (hts _ q585) (fun _ h => h) rfl dX5_reach_69 ?_
    refine lv_iload_n hx hb dX5_reach_72 rfl (lv_at hl 2 rfl) ?_
    refine va_lald (f := (zNow σ)) hx hb hK hP 2 1 rfl rfl (ha (by assumption)) dX5_reach_73 ?_
    refine p_S (rest := []) hx hb hml hown hts (m_X5_size l (a / (4 : Int32)) (zNow σ a.toNatClampNeg)) q700 q701 q26 q702 nX5_size ⟨Nat.le_of_ble_eq_true rfl, Nat.le_of_ble_eq_true rfl⟩ hl.1 rfl rfl (Nat.le_of_ble_eq_true rfl) dX5_reach_74 ⟨Nat.zero_le _, Nat.zero_le _⟩ blind_c (fun _ _ _ => trivial) ?_
    refine p_top (w := .long (sX5_reach_e2 σ a b)) rfl ?_
    refine lv_lstore (lv' := [(4, .long (sX5_reach_e2 σ a b)), (3, .int (a / (4 : Int32))), (0, .ref (ma 0)), (1, .int a), (2, .int b)]) hx hb dX5_reach_77 hl (by decide) rfl (fun ls hl => ?_)
    refine lv_iload_n hx hb dX5_reach_79 rfl (lv_at hl 1 rfl) ?_
    refine lv_aload_n hx hb dX5_reach_80 rfl (lv_at hl 2 rfl) ?_
    refine va_get (v := .ref (ma 2)) (C := RX5) (T := TX5) (N := 11) (ci := 5) hx hb hts inX5 hown hK hP 0 rfl rfl 2 (by decide) (hts _ q585) (fun _ h => h) rfl dX5_reach_81 ?_
    refine lv_iload_n hx hb dX5_reach_84 rfl (lv_at hl 4 rfl) ?_
    refine va_lald (f := (zNow σ)) hx hb hK hP 2 1 rfl rfl (hb2 (by assumption)) dX5_reach_85 ?_
    refine p_S (rest := []) hx hb hml hown hts (m_X5_size l (a / (4 : Int32)) (zNow σ b.toNatClampNeg)) q700 q701 q26 q702 nX5_size ⟨Nat.le_of_ble_eq_true rfl, Nat.le_of_ble_eq_true rfl⟩ hl.1 rfl rfl (Nat.le_of_ble_eq_true rfl) dX5_reach_86 ⟨Nat.zero_le _, Nat.zero_le _⟩ blind_c (fun _ _ _ => trivial) ?_
    refine p_top (w := .long (sX5_reach_e3 σ a b)) rfl ?_
    refine lv_lstore (lv' := [(6, .long (sX5_reach_e3 σ a b)), (4, .long (sX5_reach_e2 σ a b)), (3, .int (a / (4 : Int32))), (0, .ref (ma 0)), (1, .int a), (2, .int b)]) hx hb dX5_reach_89 hl (by decide) rfl (fun ls hl => ?_)
    refine lv_iload_n hx hb dX5_reach_91 rfl (lv_at hl 2 rfl) ?_
    refine lv_lload hx hb dX5_reach_92 (lv_at hl 1 rfl) ?_
    refine lv_lload hx hb dX5_reach_94 (lv_at hl 0 rfl) ?_
    refine p_S (rest := []) hx hb hml hown hts (m_X5_greater l (a / (4 : Int32)) (sX5_reach_e2 σ a b) (sX5_reach_e3 σ a b)) q703 q704 q26 q705 nX5_greater ⟨Nat.le_of_ble_eq_true rfl, Nat.le_of_ble_eq_true rfl⟩ hl.1 rfl rfl (Nat.le_of_ble_eq_true rfl) dX5_reach_96 ⟨Nat.zero_le _, Nat.zero_le _⟩ blind_c (fun _ _ _ => trivial) ?_
    refine p_top (w := .long (sX5_reach_e4 σ a b)) rfl ?_
    refine lv_lstore (lv' := [(8, .long (sX5_reach_e4 σ a b)), (6, .long (sX5_reach_e3 σ a b)), (4, .long (sX5_reach_e2 σ a b)), (3, .int (a / (4 : Int32))), (0, .ref (ma 0)), (1, .int a), (2, .int b)]) hx hb dX5_reach_99 hl (by decide) rfl (fun ls hl => ?_)
    refine lv_iload_n hx hb dX5_reach_101 rfl (lv_at hl 3 rfl) ?_
    refine lv_lload hx hb dX5_reach_102 (lv_at hl 2 rfl) ?_
    refine lv_lload hx hb dX5_reach_104 (lv_at hl 1 rfl) ?_
    refine p_S (rest := []) hx hb hml hown hts (m_X5_lesser l (a / (4 : Int32)) (sX5_reach_e2 σ a b) (sX5_reach_e3 σ a b)) q709 q710 q26 q711 nX5_lesser ⟨Nat.le_of_ble_eq_true rfl, Nat.le_of_ble_eq_true rfl⟩ hl.1 rfl rfl (Nat.le_of_ble_eq_true rfl) dX5_reach_106 ⟨Nat.zero_le _, Nat.zero_le _⟩ blind_c (fun _ _ _ => trivial) ?_
    refine p_top (w := .long (sX5_reach_e5 σ a b)) rfl ?_
    refine lv_lstore (lv' := [(10, .long (sX5_reach_e5 σ a b)), (8, .long (sX5_reach_e4 σ a b)), (6, .long (sX5_reach_e3 σ a b)), (4, .long (sX5_reach_e2 σ a b)), (3, .int (a / (4 : Int32))), (0, .ref (ma 0)), (1, .int a), (2, .int b)]) hx hb dX5_reach_109 hl (by decide) rfl (fun ls hl => ?_)
    refine lv_iload_n hx hb dX5_reach_111 rfl (lv_at hl 4 rfl) ?_
    refine p_S (rest := []) hx hb hml hown hts (m_X5_isWhole l (a / (4 : Int32))) q643 q644 q26 q645 nX5_isWhole ⟨Nat.le_of_ble_eq_true rfl, Nat.le_of_ble_eq_true rfl⟩ hl.1 rfl rfl (Nat.le_of_ble_eq_true rfl) dX5_reach_112 ⟨Nat.zero_le _, Nat.zero_le _⟩ blind_c (fun _ _ _ => trivial) ?_
    refine c_if_eq (tgt := 130) hx hb dX5_reach_115 (by decide) (fun h7 => ?_) (fun h7 => ?_)
    · skip
      refine lv_iload_n hx hb dX5_reach_130 rfl (lv_at hl 4 rfl) ?_
      refine lv_iload_n hx hb dX5_reach_131 rfl (lv_at hl 4 rfl) ?_
      refine lv_lload hx hb dX5_reach_132 (lv_at hl 0 rfl) ?_
      refine p_S (rest := [.int (a / (4 : Int32))]) hx hb hml hown hts (m_X5_real l (a / (4 : Int32)) (sX5_reach_e5 σ a b) (hO (by assumption) (by assumption))) q654 q655 q26 q656 nX5_real ⟨Nat.le_of_ble_eq_true rfl, Nat.le_of_ble_eq_true rfl⟩ hl.1 rfl rfl (Nat.le_of_ble_eq_true rfl) dX5_reach_134 ⟨Nat.zero_le _, Nat.zero_le _⟩ blind_c (fun _ _ _ => trivial) ?_
      refine lv_ldc2d hx hb hown (hts _ q753) dX5_reach_137 ?_
      refine lv_dmul hx hb dX5_reach_140 (nn_half (nn_real (hO (by assumption) (by assumption)))) ?_
      refine p_S (rest := []) hx hb hml hown hts (m_X5_bits l (a / (4 : Int32)) (FP.dmul (sX5_real (a / (4 : Int32)) (sX5_reach_e5 σ a b)) (4602678819172646912 : UInt64)) (nn_half (nn_real (hO (by assumption) (by assumption))))) q663 q664 q26 q665 nX5_bits ⟨Nat.le_of_ble_eq_true rfl, Nat.le_of_ble_eq_true rfl⟩ hl.1 rfl rfl (Nat.le_of_ble_eq_true rfl) dX5_reach_141 ⟨Nat.zero_le _, Nat.zero_le _⟩ blind_c (fun _ _ _ => trivial) ?_
      refine p_top (w := .long (sX5_reach_e6 σ a b)) rfl ?_
      refine lv_lstore (lv' := [(12, .long (sX5_reach_e6 σ a b)), (10, .long (sX5_reach_e5 σ a b)), (8, .long (sX5_reach_e4 σ a b)), (6, .long (sX5_reach_e3 σ a b)), (4, .long (sX5_reach_e2 σ a b)), (3, .int (a / (4 : Int32))), (0, .ref (ma 0)), (1, .int a), (2, .int b)]) hx hb dX5_reach_144 hl (by decide) rfl (fun ls hl => ?_)
      refine lv_iload_n hx hb dX5_reach_146 rfl (lv_at hl 5 rfl) ?_
      refine lv_iload_n hx hb dX5_reach_147 rfl (lv_at hl 5 rfl) ?_
      refine lv_lload hx hb dX5_reach_148 (lv_at hl 2 rfl) ?_
      refine p_S (rest := [.int (a / (4 : Int32))]) hx hb hml hown hts (m_X5_real l (a / (4 : Int32)) (sX5_reach_e4 σ a b) (hM (by assumption) (by assumption))) q654 q655 q26 q656 nX5_real ⟨Nat.le_of_ble_eq_true rfl, Nat.le_of_ble_eq_true rfl⟩ hl.1 rfl rfl (Nat.le_of_ble_eq_true rfl) dX5_reach_150 ⟨Nat.zero_le _, Nat.zero_le _⟩ blind_c (fun _ _ _ => trivial) ?_
      refine lv_iload_n hx hb dX5_reach_153 rfl (lv_at hl 5 rfl) ?_
      refine lv_lload hx hb dX5_reach_154 (lv_at hl 0 rfl) ?_
      refine p_S (rest := [.double (sX5_real (a / (4 : Int32)) (sX5_reach_e4 σ a b)), .int (a / (4 : Int32))]) hx hb hml hown hts (m_X5_real l (a / (4 : Int32)) (sX5_reach_e6 σ a b) (ok_bits (nn_half (nn_real (hO (by assumption) (by assumption)))))) q654 q655 q26 q656 nX5_real ⟨Nat.le_of_ble_eq_true rfl, Nat.le_of_ble_eq_true rfl⟩ hl.1 rfl rfl (Nat.le_of_ble_eq_true rfl) dX5_reach_156 ⟨Nat.zero_le _, Nat.zero_le _⟩ blind_c (fun _ _ _ => trivial) ?_
      refine lv_dadd hx hb dX5_reach_159 (hA (by assumption) (by assumption)) ?_
      refine p_S (rest := []) hx hb hml hown hts (m_X5_bits l (a / (4 : Int32)) (FP.dadd (sX5_real (a / (4 : Int32)) (sX5_reach_e4 σ a b)) (sX5_real (a / (4 : Int32)) (sX5_reach_e6 σ a b))) (hA (by assumption) (by assumption))) q663 q664 q26 q665 nX5_bits ⟨Nat.le_of_ble_eq_true rfl, Nat.le_of_ble_eq_true rfl⟩ hl.1 rfl rfl (Nat.le_of_ble_eq_true rfl) dX5_reach_160 ⟨Nat.zero_le _, Nat.zero_le _⟩ blind_c (fun _ _ _ => trivial) ?_
      exact W.lret hx hb hr (fun t ht hW => ⟨congrArg (fun z => Outcome.returned (some (Value.long z))) (by rw [sX5_reach, if_neg h6, if_pos h7]), (by unfold hX5_reach tX5_reach; simp only [if_neg h6, if_pos h7]; rw [ht]; exact hP), hS.F ht⟩) hS.2.2 dX5_reach_163
    · skip
      refine lv_iload_n hx hb dX5_reach_118 rfl (lv_at hl 4 rfl) ?_
      refine lv_lload hx hb dX5_reach_119 (lv_at hl 1 rfl) ?_
      refine lv_lload hx hb dX5_reach_121 (lv_at hl 0 rfl) ?_
      refine lv_iconst (v := 1) hx hb dX5_reach_123 (by decide) ?_
      refine lv_lshr hx hb dX5_reach_124 rfl ?_
      refine lv_ladd hx hb dX5_reach_125 ?_
      refine p_S (rest := []) hx hb hml hown hts (m_X5_wrapped l (a / (4 : Int32)) ((sX5_reach_e4 σ a b) + ((sX5_reach_e5 σ a b) >>> ((1 : Int32).toInt64 &&& 63)))) q646 q647 q26 q648 nX5_wrapped ⟨Nat.le_of_ble_eq_true rfl, Nat.le_of_ble_eq_true rfl⟩ hl.1 rfl rfl (Nat.le_of_ble_eq_true rfl) dX5_reach_126 ⟨Nat.zero_le _, Nat.zero_le _⟩ blind_c (fun _ _ _ => trivial) ?_
      exact W.lret hx hb hr (fun t ht hW => ⟨congrArg (fun z => Outcome.returned (some (Value.long z))) (by rw [sX5_reach, if_neg h6, if_neg h7]), (by unfold hX5_reach tX5_reach; simp only [if_neg h6, if_neg h7]; rw [ht]; exact hP), hS.F ht⟩) hS.2.2 dX5_reach_129
  · skip
    refine lv_lconst (v := 0) hx hb dX5_reach_61 (by decide) ?_
    exact W.lret hx hb hr (fun t ht hW => ⟨congrArg (fun z => Outcome.returned (some (Value.long z))) (by rw [sX5_reach, if_pos h6]), (by unfold hX5_reach tX5_reach; simp only [if_pos h6]; rw [ht]; exact hP), hS.F ht⟩) hS.2.2 dX5_reach_62
