theorem nL_read : yL_read.cls ≠ "java/lang/invoke/MethodHandle" ∧ yL_read.cls ≠ "java/lang/invoke/VarHandle" ∧ (parseMethodDescriptor yL_read.desc).map (fun d => d.parameters.length) = some 4 := by decide +kernel
theorem nL_order : yL_order.cls ≠ "java/lang/invoke/MethodHandle" ∧ yL_order.cls ≠ "java/lang/invoke/VarHandle" ∧ (parseMethodDescriptor yL_order.desc).map (fun d => d.parameters.length) = some 4 := by decide +kernel
theorem nL_show : yL_show.cls ≠ "java/lang/invoke/MethodHandle" ∧ yL_show.cls ≠ "java/lang/invoke/VarHandle" ∧ (parseMethodDescriptor yL_show.desc).map (fun d => d.parameters.length) = some 3 := by decide +kernel
theorem nL_keep : yL_keep.cls ≠ "java/lang/invoke/MethodHandle" ∧ yL_keep.cls ≠ "java/lang/invoke/VarHandle" ∧ (parseMethodDescriptor yL_keep.desc).map (fun d => d.parameters.length) = some 3 := by decide +kernel
theorem nL_reach : yL_reach.cls ≠ "java/lang/invoke/MethodHandle" ∧ yL_reach.cls ≠ "java/lang/invoke/VarHandle" ∧ (parseMethodDescriptor yL_reach.desc).map (fun d => d.parameters.length) = some 4 := by decide +kernel
theorem nL_top : yL_top.cls ≠ "java/lang/invoke/MethodHandle" ∧ yL_top.cls ≠ "java/lang/invoke/VarHandle" ∧ (parseMethodDescriptor yL_top.desc).map (fun d => d.parameters.length) = some 4 := by decide +kernel
theorem nL_look : yL_look.cls ≠ "java/lang/invoke/MethodHandle" ∧ yL_look.cls ≠ "java/lang/invoke/VarHandle" ∧ (parseMethodDescriptor yL_look.desc).map (fun d => d.parameters.length) = some 4 := by decide +kernel
theorem nL_forget : yL_forget.cls ≠ "java/lang/invoke/MethodHandle" ∧ yL_forget.cls ≠ "java/lang/invoke/VarHandle" ∧ (parseMethodDescriptor yL_forget.desc).map (fun d => d.parameters.length) = some 3 := by decide +kernel
set_option maxHeartbeats 4000000 in
set_option maxRecDepth 100000 in
theorem law_c0 {p : Program} {l : Launch} {e : Env} {s : State} {m : MethodId} {below : List Frame} {meth : Method} {c : Code} {b L : Nat} {xs : Nat → Int32} {D : va_G} {A : Nat → Prop} {cI cB cJ cI2 cJ2 : ClassId} (F : LF p s m meth c b L xs D A cI cB cJ cI2 cJ2) (hst : l.stackTraces = false) {σ : St} {j i : Nat} (hj : j ≤ 4096) (hI : Inv σ j) (hi : i + 4 ≤ L) {o : Nat → Int64} {ra ma : Nat → Nat} {oa : Nat} {th : Int32} {H : Heap} {locs : List Loc} {cells slots : Nat} (hC : cells + 1 ≤ room_1.cells ∧ slots + 6 ≤ room_1.slots) {Q : State → Prop} {ls : Array Slot}
    (hP : va_P D vwCl (BW cI cB cJ cI2 cJ2 ra ma oa o th σ σ) H) (hD : va_D A (BW cI cB cJ cI2 cJ2 ra ma oa o th σ σ)) (hS : va_S A s.heap H locs) (hl : lv_has ls 8 (lvL b ra ma oa i))
    (kk : ∀ (H : Heap) (locs : List Loc) (o : Nat → Int64) (σ : St) (th : Int32) (ls : Array Slot), Inv σ (j + 1) → va_P D vwCl (BW cI cB cJ cI2 cJ2 ra ma oa o th σ σ) H → va_D A (BW cI cB cJ cI2 cJ2 ra ma oa o th σ σ) → va_S A s.heap H locs → lv_has ls 8 (lvL b ra ma oa i) → W p l e room_1 s m #[Value.ref b] below meth c H locs (cells + 1) (slots + 6) Q (F0 m 671 ls [])) : W p l e room_1 s m #[Value.ref b] below meth c H locs cells slots Q (F0 m 92 ls []) := by
  obtain ⟨hx, hb, hr, hml, hown, hts, hX, hbl, hbA, hlocks, hKL, hKM, hA, hN, hT, hNX, hL, -⟩ := F
  have hK : va_K D vwCl (tyR cI cB) s := hKL.sub [0, 1] rfl
  have v1 : vp_in (nI i + 1) L := nI_k (k := 1) (by omega) hL 1 rfl
  have v2 : vp_in (nI i + 2) L := nI_k (k := 2) (by omega) hL 2 rfl
  have v3 : vp_in (nI i + 3) L := nI_k (k := 3) (by omega) hL 3 rfl
  refine lv_aload_n hx hb dL_law_92 rfl (lv_at hl 1 rfl) ?_
  refine lv_aload_n hx hb dL_law_93 rfl (lv_at hl 0 rfl) ?_
  refine lv_iload hx hb dL_law_94 (lv_at hl 4 rfl) ?_
  refine lv_iconst (v := 1) hx hb dL_law_96 (by decide) ?_
  refine lv_iadd hx hb dL_law_97 ?_
  refine va_sld hx hb hX hbl hbA hS v1 dL_law_98 ?_
  refine lv_aload_n hx hb dL_law_99 rfl (lv_at hl 0 rfl) ?_
  refine lv_iload hx hb dL_law_100 (lv_at hl 4 rfl) ?_
  refine lv_iconst (v := 2) hx hb dL_law_102 (by decide) ?_
  refine lv_iadd hx hb dL_law_103 ?_
  refine va_sld hx hb hX hbl hbA hS v2 dL_law_104 ?_
  refine lv_i2l hx hb dL_law_105 rfl ?_
  refine lv_bipush (v := 32) hx hb dL_law_106 (by decide) ?_
  refine lv_lshl hx hb dL_law_108 rfl ?_
  refine lv_aload_n hx hb dL_law_109 rfl (lv_at hl 0 rfl) ?_
  refine lv_iload hx hb dL_law_110 (lv_at hl 4 rfl) ?_
  refine lv_iconst (v := 3) hx hb dL_law_112 (by decide) ?_
  refine lv_iadd hx hb dL_law_113 ?_
  refine va_sld hx hb hX hbl hbA hS v3 dL_law_114 ?_
  refine lv_i2l hx hb dL_law_115 rfl ?_
  refine lv_ldc2 hx hb hown (hts _ q791) dL_law_116 ?_
  refine lv_land hx hb dL_law_119 ?_
  refine lv_lor hx hb dL_law_120 ?_
  refine lv_aload_n hx hb dL_law_121 rfl (lv_at hl 3 rfl) ?_
  obtain ⟨k, o2, σ2, z, dM, hdM, hI2, h0, hH, hM⟩ := both_read hst hj hI o (xs (nI i + 1).toNatClampNeg) ((xs (nI i + 2).toNatClampNeg).toInt64 <<< ((32 : Int32).toInt64 &&& 63) ||| (xs (nI i + 3).toNatClampNeg).toInt64 &&& (4294967295 : Int64))
  refine l_S (rest := []) hx hb hml hown hts (hH D A cI cB cJ ra oa _) q151 q152 q20 q153 nL_read ⟨Nat.le_of_ble_eq_true rfl, Nat.le_of_ble_eq_true rfl⟩ hl.1 rfl rfl (Nat.le_of_ble_eq_true rfl) dL_law_122 hC lPre_bl (lPre_go hP hKL hD hA hN hT hNX hS) hS (fun H locs hP hS => ?_)
  refine lv_istore (lv' := [(5, .int k), (0, .ref b), (1, .ref (ra 0)), (2, .ref (ma 0)), (3, .ref oa), (4, .int (nI i))]) hx hb dL_law_125 hl (by decide) rfl (fun ls hl => ?_)
  refine lv_aload_n hx hb dL_law_127 rfl (lv_at hl 3 rfl) ?_
  refine lv_aload_n hx hb dL_law_128 rfl (lv_at hl 1 rfl) ?_
  refine lv_iload hx hb dL_law_129 (lv_at hl 5 rfl) ?_
  refine lv_iconst (v := 1) hx hb dL_law_131 (by decide) ?_
  refine lv_iadd hx hb dL_law_132 ?_
  refine va_sld hx hb hX hbl hbA hS v1 dL_law_133 ?_
  refine lv_aload_n hx hb dL_law_134 rfl (lv_at hl 1 rfl) ?_
  refine lv_iload hx hb dL_law_135 (lv_at hl 5 rfl) ?_
  refine lv_iconst (v := 2) hx hb dL_law_137 (by decide) ?_
  refine lv_iadd hx hb dL_law_138 ?_
  refine va_sld hx hb hX hbl hbA hS v2 dL_law_139 ?_
  refine lv_i2l hx hb dL_law_140 rfl ?_
  refine lv_bipush (v := 32) hx hb dL_law_141 (by decide) ?_
  refine lv_lshl hx hb dL_law_143 rfl ?_
  refine lv_aload_n hx hb dL_law_144 rfl (lv_at hl 1 rfl) ?_
  refine lv_iload hx hb dL_law_145 (lv_at hl 5 rfl) ?_
  refine lv_iconst (v := 3) hx hb dL_law_147 (by decide) ?_
  refine lv_iadd hx hb dL_law_148 ?_
  refine va_sld hx hb hX hbl hbA hS v3 dL_law_149 ?_
  refine lv_i2l hx hb dL_law_150 rfl ?_
  refine lv_ldc2 hx hb hown (hts _ q791) dL_law_151 ?_
  refine lv_land hx hb dL_law_154 ?_
  refine lv_lor hx hb dL_law_155 ?_
  have hP := bw_P hP
  have hD : va_D A (BM cI cB cJ cI2 cJ2 ra ma oa o2 th σ2 σ) := bw_D hD
  refine i_V (C := RX5) (rest := []) hx hb hml hown hts (hM D A cI2 cJ2 ma th _) q622 q623 q624 q26 q625 rfl nX5_read ⟨show dM + 1 ≤ 20 by omega, show 8 + (7 + 11) + 40 * dM ≤ 10844 by omega⟩ hl.1 rfl rfl (Nat.le_of_ble_eq_true rfl) dL_law_156 hC mPre_bl (va_recv hKM hP (ci := 5) (q0 := 0) rfl rfl) (mPre_go hP hKM hD) hS (fun H locs hP hS => ?_)
  have hD : va_D A (BM cI cB cJ cI2 cJ2 ra ma oa o2 k σ2 σ2) := bm_E hD
  refine lv_istore (lv' := [(6, .int z), (5, .int k), (0, .ref b), (1, .ref (ra 0)), (2, .ref (ma 0)), (3, .ref oa), (4, .int (nI i))]) hx hb dL_law_159 hl (by decide) rfl (fun ls hl => ?_)
  refine lv_aload_n hx hb dL_law_161 rfl (lv_at hl 4 rfl) ?_
  refine p_V (C := RX5) (rest := []) hx hb hml hown hts (m_X5_thrown l D A cI2 cJ2 ma k σ2 _) q618 q619 q620 q26 q621 rfl nX5_thrown ⟨Nat.le_of_ble_eq_true rfl, Nat.le_of_ble_eq_true rfl⟩ hl.1 rfl rfl (Nat.le_of_ble_eq_true rfl) dL_law_162 hC mPre_bl (va_recv hKM hP (ci := 5) (q0 := 0) rfl rfl) (mPre_go hP hKM hD) ?_
  refine lv_iload hx hb dL_law_165 (lv_at hl 1 rfl) ?_
  refine c_icmp_eq (tgt := 172) hx hb dL_law_167 (by decide) (fun _ => ?_) (fun q => absurd rfl q)
  refine lv_iload hx hb dL_law_172 (lv_at hl 1 rfl) ?_
  refine c_if_ne (tgt := 189) hx hb dL_law_174 (by decide) (fun _ => ?_) (fun hk => ?_)
  · refine lv_goto (tgt := 671) hx hb dL_law_189 (by decide) ?_
    exact kk H locs o2 σ2 k ls hI2 (bm_P hP) (bm_D hD) hS (lv_sub hl [2, 3, 4, 5, 6] rfl)
  · refine lv_aload_n hx hb dL_law_177 rfl (lv_at hl 5 rfl) ?_
    refine lv_iconst (v := 0) hx hb dL_law_178 (by decide) ?_
    refine va_lald (f := o2) hx hb hKL hP 33 2 rfl rfl (show vp_in 0 1 by unfold vp_in; decide) dL_law_179 ?_
    refine p_top (w := .long (o2 0)) rfl ?_
    refine lv_iload hx hb dL_law_180 (lv_at hl 0 rfl) ?_
    refine lv_i2l hx hb dL_law_182 rfl ?_
    refine c_lcmp_eq (tgt := 189) hx hb dL_law_183 dL_law_184 (by decide) (fun _ => ?_) (fun q => absurd (h0 hk) q)
    refine lv_goto (tgt := 671) hx hb dL_law_189 (by decide) ?_
    exact kk H locs o2 σ2 k ls hI2 (bm_P hP) (bm_D hD) hS (lv_sub hl [2, 3, 4, 5, 6] rfl)
set_option maxHeartbeats 4000000 in
set_option maxRecDepth 100000 in
theorem law_c1 {p : Program} {l : Launch} {e : Env} {s : State} {m : MethodId} {below : List Frame} {meth : Method} {c : Code} {b L : Nat} {xs : Nat → Int32} {D : va_G} {A : Nat → Prop} {cI cB cJ cI2 cJ2 : ClassId} (F : LF p s m meth c b L xs D A cI cB cJ cI2 cJ2) (hst : l.stackTraces = false) {σ : St} {j i : Nat} (hj : j ≤ 4096) (hI : Inv σ j) (hi : i + 4 ≤ L) {o : Nat → Int64} {ra ma : Nat → Nat} {oa : Nat} {th : Int32} {H : Heap} {locs : List Loc} {cells slots : Nat} (hC : cells + 1 ≤ room_1.cells ∧ slots + 6 ≤ room_1.slots) {Q : State → Prop} {ls : Array Slot}
    (hP : va_P D vwCl (BW cI cB cJ cI2 cJ2 ra ma oa o th σ σ) H) (hD : va_D A (BW cI cB cJ cI2 cJ2 ra ma oa o th σ σ)) (hS : va_S A s.heap H locs) (hl : lv_has ls 8 (lvL b ra ma oa i))
    (kk : ∀ (H : Heap) (locs : List Loc) (o : Nat → Int64) (σ : St) (th : Int32) (ls : Array Slot), Inv σ (j + 1) → va_P D vwCl (BW cI cB cJ cI2 cJ2 ra ma oa o th σ σ) H → va_D A (BW cI cB cJ cI2 cJ2 ra ma oa o th σ σ) → va_S A s.heap H locs → lv_has ls 8 (lvL b ra ma oa i) → W p l e room_1 s m #[Value.ref b] below meth c H locs (cells + 1) (slots + 6) Q (F0 m 671 ls [])) : W p l e room_1 s m #[Value.ref b] below meth c H locs cells slots Q (F0 m 192 ls []) := by
  obtain ⟨hx, hb, hr, hml, hown, hts, hX, hbl, hbA, hlocks, hKL, hKM, hA, hN, hT, hNX, hL, -⟩ := F
  have hK : va_K D vwCl (tyR cI cB) s := hKL.sub [0, 1] rfl
  have v1 : vp_in (nI i + 1) L := nI_k (k := 1) (by omega) hL 1 rfl
  have v2 : vp_in (nI i + 2) L := nI_k (k := 2) (by omega) hL 2 rfl
  have v3 : vp_in (nI i + 3) L := nI_k (k := 3) (by omega) hL 3 rfl
  refine lv_aload_n hx hb dL_law_192 rfl (lv_at hl 1 rfl) ?_
  refine lv_aload_n hx hb dL_law_193 rfl (lv_at hl 0 rfl) ?_
  refine lv_iload hx hb dL_law_194 (lv_at hl 4 rfl) ?_
  refine lv_iconst (v := 1) hx hb dL_law_196 (by decide) ?_
  refine lv_iadd hx hb dL_law_197 ?_
  refine va_sld hx hb hX hbl hbA hS v1 dL_law_198 ?_
  refine lv_aload_n hx hb dL_law_199 rfl (lv_at hl 0 rfl) ?_
  refine lv_iload hx hb dL_law_200 (lv_at hl 4 rfl) ?_
  refine lv_iconst (v := 2) hx hb dL_law_202 (by decide) ?_
  refine lv_iadd hx hb dL_law_203 ?_
  refine va_sld hx hb hX hbl hbA hS v2 dL_law_204 ?_
  refine lv_aload_n hx hb dL_law_205 rfl (lv_at hl 3 rfl) ?_
  obtain ⟨k, o2, σ2, z, dM, hdM, hI2, h0, hH, hM⟩ := both_order hst hj hI o (xs (nI i + 1).toNatClampNeg) (xs (nI i + 2).toNatClampNeg)
  refine l_S (rest := []) hx hb hml hown hts (hH D A cI cB cJ ra oa _) q343 q344 q20 q345 nL_order ⟨Nat.le_of_ble_eq_true rfl, Nat.le_of_ble_eq_true rfl⟩ hl.1 rfl rfl (Nat.le_of_ble_eq_true rfl) dL_law_206 hC lPre_bl (lPre_go hP hKL hD hA hN hT hNX hS) hS (fun H locs hP hS => ?_)
  refine lv_istore (lv' := [(5, .int k), (0, .ref b), (1, .ref (ra 0)), (2, .ref (ma 0)), (3, .ref oa), (4, .int (nI i))]) hx hb dL_law_209 hl (by decide) rfl (fun ls hl => ?_)
  refine lv_aload_n hx hb dL_law_211 rfl (lv_at hl 3 rfl) ?_
  refine lv_aload_n hx hb dL_law_212 rfl (lv_at hl 1 rfl) ?_
  refine lv_iload hx hb dL_law_213 (lv_at hl 5 rfl) ?_
  refine lv_iconst (v := 1) hx hb dL_law_215 (by decide) ?_
  refine lv_iadd hx hb dL_law_216 ?_
  refine va_sld hx hb hX hbl hbA hS v1 dL_law_217 ?_
  refine lv_aload_n hx hb dL_law_218 rfl (lv_at hl 1 rfl) ?_
  refine lv_iload hx hb dL_law_219 (lv_at hl 5 rfl) ?_
  refine lv_iconst (v := 2) hx hb dL_law_221 (by decide) ?_
  refine lv_iadd hx hb dL_law_222 ?_
  refine va_sld hx hb hX hbl hbA hS v2 dL_law_223 ?_
  have hP := bw_P hP
  have hD : va_D A (BM cI cB cJ cI2 cJ2 ra ma oa o2 th σ2 σ) := bw_D hD
  refine i_V (C := RX5) (rest := []) hx hb hml hown hts (hM D A cI2 cJ2 ma th _) q712 q713 q714 q26 q715 rfl nX5_order ⟨show dM + 1 ≤ 20 by omega, show 8 + (4 + 11) + 40 * dM ≤ 10844 by omega⟩ hl.1 rfl rfl (Nat.le_of_ble_eq_true rfl) dL_law_224 hC mPre_bl (va_recv hKM hP (ci := 5) (q0 := 0) rfl rfl) (mPre_go hP hKM hD) hS (fun H locs hP hS => ?_)
  have hD : va_D A (BM cI cB cJ cI2 cJ2 ra ma oa o2 k σ2 σ2) := bm_E hD
  refine lv_istore (lv' := [(6, .int z), (5, .int k), (0, .ref b), (1, .ref (ra 0)), (2, .ref (ma 0)), (3, .ref oa), (4, .int (nI i))]) hx hb dL_law_227 hl (by decide) rfl (fun ls hl => ?_)
  refine lv_aload_n hx hb dL_law_229 rfl (lv_at hl 4 rfl) ?_
  refine p_V (C := RX5) (rest := []) hx hb hml hown hts (m_X5_thrown l D A cI2 cJ2 ma k σ2 _) q618 q619 q620 q26 q621 rfl nX5_thrown ⟨Nat.le_of_ble_eq_true rfl, Nat.le_of_ble_eq_true rfl⟩ hl.1 rfl rfl (Nat.le_of_ble_eq_true rfl) dL_law_230 hC mPre_bl (va_recv hKM hP (ci := 5) (q0 := 0) rfl rfl) (mPre_go hP hKM hD) ?_
  refine lv_iload hx hb dL_law_233 (lv_at hl 1 rfl) ?_
  refine c_icmp_eq (tgt := 240) hx hb dL_law_235 (by decide) (fun _ => ?_) (fun q => absurd rfl q)
  refine lv_iload hx hb dL_law_240 (lv_at hl 1 rfl) ?_
  refine c_if_ne (tgt := 257) hx hb dL_law_242 (by decide) (fun _ => ?_) (fun hk => ?_)
  · refine lv_goto (tgt := 671) hx hb dL_law_257 (by decide) ?_
    exact kk H locs o2 σ2 k ls hI2 (bm_P hP) (bm_D hD) hS (lv_sub hl [2, 3, 4, 5, 6] rfl)
  · refine lv_aload_n hx hb dL_law_245 rfl (lv_at hl 5 rfl) ?_
    refine lv_iconst (v := 0) hx hb dL_law_246 (by decide) ?_
    refine va_lald (f := o2) hx hb hKL hP 33 2 rfl rfl (show vp_in 0 1 by unfold vp_in; decide) dL_law_247 ?_
    refine p_top (w := .long (o2 0)) rfl ?_
    refine lv_iload hx hb dL_law_248 (lv_at hl 0 rfl) ?_
    refine lv_i2l hx hb dL_law_250 rfl ?_
    refine c_lcmp_eq (tgt := 257) hx hb dL_law_251 dL_law_252 (by decide) (fun _ => ?_) (fun q => absurd (h0 hk) q)
    refine lv_goto (tgt := 671) hx hb dL_law_257 (by decide) ?_
    exact kk H locs o2 σ2 k ls hI2 (bm_P hP) (bm_D hD) hS (lv_sub hl [2, 3, 4, 5, 6] rfl)
set_option maxHeartbeats 4000000 in
set_option maxRecDepth 100000 in
theorem law_c2 {p : Program} {l : Launch} {e : Env} {s : State} {m : MethodId} {below : List Frame} {meth : Method} {c : Code} {b L : Nat} {xs : Nat → Int32} {D : va_G} {A : Nat → Prop} {cI cB cJ cI2 cJ2 : ClassId} (F : LF p s m meth c b L xs D A cI cB cJ cI2 cJ2) (hst : l.stackTraces = false) {σ : St} {j i : Nat} (hj : j ≤ 4096) (hI : Inv σ j) (hi : i + 4 ≤ L) {o : Nat → Int64} {ra ma : Nat → Nat} {oa : Nat} {th : Int32} {H : Heap} {locs : List Loc} {cells slots : Nat} (hC : cells + 1 ≤ room_1.cells ∧ slots + 6 ≤ room_1.slots) {Q : State → Prop} {ls : Array Slot}
    (hP : va_P D vwCl (BW cI cB cJ cI2 cJ2 ra ma oa o th σ σ) H) (hD : va_D A (BW cI cB cJ cI2 cJ2 ra ma oa o th σ σ)) (hS : va_S A s.heap H locs) (hl : lv_has ls 8 (lvL b ra ma oa i))
    (kk : ∀ (H : Heap) (locs : List Loc) (o : Nat → Int64) (σ : St) (th : Int32) (ls : Array Slot), Inv σ (j + 1) → va_P D vwCl (BW cI cB cJ cI2 cJ2 ra ma oa o th σ σ) H → va_D A (BW cI cB cJ cI2 cJ2 ra ma oa o th σ σ) → va_S A s.heap H locs → lv_has ls 8 (lvL b ra ma oa i) → W p l e room_1 s m #[Value.ref b] below meth c H locs (cells + 1) (slots + 6) Q (F0 m 671 ls [])) : W p l e room_1 s m #[Value.ref b] below meth c H locs cells slots Q (F0 m 260 ls []) := by
  obtain ⟨hx, hb, hr, hml, hown, hts, hX, hbl, hbA, hlocks, hKL, hKM, hA, hN, hT, hNX, hL, -⟩ := F
  have hK : va_K D vwCl (tyR cI cB) s := hKL.sub [0, 1] rfl
  have v1 : vp_in (nI i + 1) L := nI_k (k := 1) (by omega) hL 1 rfl
  have v2 : vp_in (nI i + 2) L := nI_k (k := 2) (by omega) hL 2 rfl
  have v3 : vp_in (nI i + 3) L := nI_k (k := 3) (by omega) hL 3 rfl
  refine W.widen (k := cells + 1) (n := slots + 6) (by omega) (by omega) ?_
  refine lv_aload_n hx hb dL_law_260 rfl (lv_at hl 1 rfl) ?_
  refine i_V (C := RX4) (rest := []) hx hb hml hown hts (m_X4_wipe l D A cI cB ra σ _) q143 q144 q145 q21 q146 rfl nX4_wipe ⟨Nat.le_of_ble_eq_true rfl, Nat.le_of_ble_eq_true rfl⟩ hl.1 rfl rfl (Nat.le_of_ble_eq_true rfl) dL_law_261 hC rPre_bl (va_recv hK hP (ci := 4) (q0 := 0) rfl rfl) (rPre_go hP hK hD hA hN hT hS) hS (fun H locs hP hS => ?_)
  have hP : va_P D vwCl (BM cI cB cJ cI2 cJ2 ra ma oa o th (tsX4_wipe σ) σ) H := bw_P hP
  have hD : va_D A (BM cI cB cJ cI2 cJ2 ra ma oa o th (tsX4_wipe σ) σ) := bw_D hD
  refine lv_aload_n hx hb dL_law_264 rfl (lv_at hl 2 rfl) ?_
  refine i_V (C := RX5) (rest := [.int (sX4_wipe σ)]) hx hb hml hown hts (m_X5_wipe l D A cI2 cJ2 ma th σ _) q719 q720 q721 q26 q722 rfl nX5_wipe ⟨Nat.le_of_ble_eq_true rfl, Nat.le_of_ble_eq_true rfl⟩ hl.1 rfl rfl (Nat.le_of_ble_eq_true rfl) dL_law_265 hC mPre_bl (va_recv hKM hP (ci := 5) (q0 := 0) rfl rfl) (mPre_go hP hKM hD) hS (fun H locs hP hS => ?_)
  have hP : va_P D vwCl (BM cI cB cJ cI2 cJ2 ra ma oa o 0 (tsX4_wipe σ) (tsX4_wipe σ)) H := hP
  have hD : va_D A (BM cI cB cJ cI2 cJ2 ra ma oa o 0 (tsX4_wipe σ) (tsX4_wipe σ)) := bm_E hD
  refine c_icmp_eq (tgt := 671) hx hb dL_law_268 (by decide) (fun _ => ?_) (fun q => absurd rfl q)
  have hI2 : Inv (tsX4_wipe σ) (j + 1) := ⟨⟨0, ⟨nI_0.symm, by omega, fun i hi => absurd hi (by omega), hI.1.choose_spec.2.2.2⟩⟩, hI.mono.2⟩
  exact kk H locs o (tsX4_wipe σ) 0 ls hI2 (bm_P hP) (bm_D hD) hS hl
set_option maxHeartbeats 4000000 in
set_option maxRecDepth 100000 in
theorem law_c3 {p : Program} {l : Launch} {e : Env} {s : State} {m : MethodId} {below : List Frame} {meth : Method} {c : Code} {b L : Nat} {xs : Nat → Int32} {D : va_G} {A : Nat → Prop} {cI cB cJ cI2 cJ2 : ClassId} (F : LF p s m meth c b L xs D A cI cB cJ cI2 cJ2) (hst : l.stackTraces = false) {σ : St} {j i : Nat} (hj : j ≤ 4096) (hI : Inv σ j) (hi : i + 4 ≤ L) {o : Nat → Int64} {ra ma : Nat → Nat} {oa : Nat} {th : Int32} {H : Heap} {locs : List Loc} {cells slots : Nat} (hC : cells + 1 ≤ room_1.cells ∧ slots + 6 ≤ room_1.slots) {Q : State → Prop} {ls : Array Slot}
    (hP : va_P D vwCl (BW cI cB cJ cI2 cJ2 ra ma oa o th σ σ) H) (hD : va_D A (BW cI cB cJ cI2 cJ2 ra ma oa o th σ σ)) (hS : va_S A s.heap H locs) (hl : lv_has ls 8 (lvL b ra ma oa i))
    (kk : ∀ (H : Heap) (locs : List Loc) (o : Nat → Int64) (σ : St) (th : Int32) (ls : Array Slot), Inv σ (j + 1) → va_P D vwCl (BW cI cB cJ cI2 cJ2 ra ma oa o th σ σ) H → va_D A (BW cI cB cJ cI2 cJ2 ra ma oa o th σ σ) → va_S A s.heap H locs → lv_has ls 8 (lvL b ra ma oa i) → W p l e room_1 s m #[Value.ref b] below meth c H locs (cells + 1) (slots + 6) Q (F0 m 671 ls [])) : W p l e room_1 s m #[Value.ref b] below meth c H locs cells slots Q (F0 m 273 ls []) := by
  obtain ⟨hx, hb, hr, hml, hown, hts, hX, hbl, hbA, hlocks, hKL, hKM, hA, hN, hT, hNX, hL, -⟩ := F
  have hK : va_K D vwCl (tyR cI cB) s := hKL.sub [0, 1] rfl
  have v1 : vp_in (nI i + 1) L := nI_k (k := 1) (by omega) hL 1 rfl
  have v2 : vp_in (nI i + 2) L := nI_k (k := 2) (by omega) hL 2 rfl
  have v3 : vp_in (nI i + 3) L := nI_k (k := 3) (by omega) hL 3 rfl
  refine lv_aload_n hx hb dL_law_273 rfl (lv_at hl 1 rfl) ?_
  refine lv_aload_n hx hb dL_law_274 rfl (lv_at hl 0 rfl) ?_
  refine lv_iload hx hb dL_law_275 (lv_at hl 4 rfl) ?_
  refine lv_iconst (v := 1) hx hb dL_law_277 (by decide) ?_
  refine lv_iadd hx hb dL_law_278 ?_
  refine va_sld hx hb hX hbl hbA hS v1 dL_law_279 ?_
  refine lv_aload_n hx hb dL_law_280 rfl (lv_at hl 3 rfl) ?_
  obtain ⟨k, o2, σ2, z, dM, hdM, hI2, h0, hH, hM⟩ := both_show hst hj hI o (xs (nI i + 1).toNatClampNeg)
  refine l_S (rest := []) hx hb hml hown hts (hH D A cI cB cJ ra oa _) q375 q376 q20 q377 nL_show ⟨Nat.le_of_ble_eq_true rfl, Nat.le_of_ble_eq_true rfl⟩ hl.1 rfl rfl (Nat.le_of_ble_eq_true rfl) dL_law_281 hC lPre_bl (lPre_go hP hKL hD hA hN hT hNX hS) hS (fun H locs hP hS => ?_)
  refine lv_istore (lv' := [(5, .int k), (0, .ref b), (1, .ref (ra 0)), (2, .ref (ma 0)), (3, .ref oa), (4, .int (nI i))]) hx hb dL_law_284 hl (by decide) rfl (fun ls hl => ?_)
  refine lv_aload_n hx hb dL_law_286 rfl (lv_at hl 3 rfl) ?_
  refine lv_aload_n hx hb dL_law_287 rfl (lv_at hl 1 rfl) ?_
  refine lv_iload hx hb dL_law_288 (lv_at hl 5 rfl) ?_
  refine lv_iconst (v := 1) hx hb dL_law_290 (by decide) ?_
  refine lv_iadd hx hb dL_law_291 ?_
  refine va_sld hx hb hX hbl hbA hS v1 dL_law_292 ?_
  have hP := bw_P hP
  have hD : va_D A (BM cI cB cJ cI2 cJ2 ra ma oa o2 th σ2 σ) := bw_D hD
  refine i_V (C := RX5) (rest := []) hx hb hml hown hts (hM D A cI2 cJ2 ma th _) q723 q724 q725 q26 q726 rfl nX5_show ⟨show dM + 1 ≤ 20 by omega, show 8 + (2 + 11) + 40 * dM ≤ 10844 by omega⟩ hl.1 rfl rfl (Nat.le_of_ble_eq_true rfl) dL_law_293 hC mPre_bl (va_recv hKM hP (ci := 5) (q0 := 0) rfl rfl) (mPre_go hP hKM hD) hS (fun H locs hP hS => ?_)
  have hD : va_D A (BM cI cB cJ cI2 cJ2 ra ma oa o2 k σ2 σ2) := bm_E hD
  refine lv_lstore (lv' := [(6, .long z), (5, .int k), (0, .ref b), (1, .ref (ra 0)), (2, .ref (ma 0)), (3, .ref oa), (4, .int (nI i))]) hx hb dL_law_296 hl (by decide) rfl (fun ls hl => ?_)
  refine lv_aload_n hx hb dL_law_298 rfl (lv_at hl 4 rfl) ?_
  refine p_V (C := RX5) (rest := []) hx hb hml hown hts (m_X5_thrown l D A cI2 cJ2 ma k σ2 _) q618 q619 q620 q26 q621 rfl nX5_thrown ⟨Nat.le_of_ble_eq_true rfl, Nat.le_of_ble_eq_true rfl⟩ hl.1 rfl rfl (Nat.le_of_ble_eq_true rfl) dL_law_299 hC mPre_bl (va_recv hKM hP (ci := 5) (q0 := 0) rfl rfl) (mPre_go hP hKM hD) ?_
  refine lv_iload hx hb dL_law_302 (lv_at hl 1 rfl) ?_
  refine c_icmp_eq (tgt := 309) hx hb dL_law_304 (by decide) (fun _ => ?_) (fun q => absurd rfl q)
  refine lv_iload hx hb dL_law_309 (lv_at hl 1 rfl) ?_
  refine c_if_ne (tgt := 325) hx hb dL_law_311 (by decide) (fun _ => ?_) (fun hk => ?_)
  · refine lv_goto (tgt := 671) hx hb dL_law_325 (by decide) ?_
    exact kk H locs o2 σ2 k ls hI2 (bm_P hP) (bm_D hD) hS (lv_sub hl [2, 3, 4, 5, 6] rfl)
  · refine lv_aload_n hx hb dL_law_314 rfl (lv_at hl 5 rfl) ?_
    refine lv_iconst (v := 0) hx hb dL_law_315 (by decide) ?_
    refine va_lald (f := o2) hx hb hKL hP 33 2 rfl rfl (show vp_in 0 1 by unfold vp_in; decide) dL_law_316 ?_
    refine p_top (w := .long (o2 0)) rfl ?_
    refine lv_lload hx hb dL_law_317 (lv_at hl 0 rfl) ?_
    refine c_lcmp_eq (tgt := 325) hx hb dL_law_319 dL_law_320 (by decide) (fun _ => ?_) (fun q => absurd (h0 hk) q)
    refine lv_goto (tgt := 671) hx hb dL_law_325 (by decide) ?_
    exact kk H locs o2 σ2 k ls hI2 (bm_P hP) (bm_D hD) hS (lv_sub hl [2, 3, 4, 5, 6] rfl)
set_option maxHeartbeats 4000000 in
set_option maxRecDepth 100000 in
theorem law_c4 {p : Program} {l : Launch} {e : Env} {s : State} {m : MethodId} {below : List Frame} {meth : Method} {c : Code} {b L : Nat} {xs : Nat → Int32} {D : va_G} {A : Nat → Prop} {cI cB cJ cI2 cJ2 : ClassId} (F : LF p s m meth c b L xs D A cI cB cJ cI2 cJ2) (hst : l.stackTraces = false) {σ : St} {j i : Nat} (hj : j ≤ 4096) (hI : Inv σ j) (hi : i + 4 ≤ L) {o : Nat → Int64} {ra ma : Nat → Nat} {oa : Nat} {th : Int32} {H : Heap} {locs : List Loc} {cells slots : Nat} (hC : cells + 1 ≤ room_1.cells ∧ slots + 6 ≤ room_1.slots) {Q : State → Prop} {ls : Array Slot}
    (hP : va_P D vwCl (BW cI cB cJ cI2 cJ2 ra ma oa o th σ σ) H) (hD : va_D A (BW cI cB cJ cI2 cJ2 ra ma oa o th σ σ)) (hS : va_S A s.heap H locs) (hl : lv_has ls 8 (lvL b ra ma oa i))
    (kk : ∀ (H : Heap) (locs : List Loc) (o : Nat → Int64) (σ : St) (th : Int32) (ls : Array Slot), Inv σ (j + 1) → va_P D vwCl (BW cI cB cJ cI2 cJ2 ra ma oa o th σ σ) H → va_D A (BW cI cB cJ cI2 cJ2 ra ma oa o th σ σ) → va_S A s.heap H locs → lv_has ls 8 (lvL b ra ma oa i) → W p l e room_1 s m #[Value.ref b] below meth c H locs (cells + 1) (slots + 6) Q (F0 m 671 ls [])) : W p l e room_1 s m #[Value.ref b] below meth c H locs cells slots Q (F0 m 328 ls []) := by
  obtain ⟨hx, hb, hr, hml, hown, hts, hX, hbl, hbA, hlocks, hKL, hKM, hA, hN, hT, hNX, hL, -⟩ := F
  have hK : va_K D vwCl (tyR cI cB) s := hKL.sub [0, 1] rfl
  have v1 : vp_in (nI i + 1) L := nI_k (k := 1) (by omega) hL 1 rfl
  have v2 : vp_in (nI i + 2) L := nI_k (k := 2) (by omega) hL 2 rfl
  have v3 : vp_in (nI i + 3) L := nI_k (k := 3) (by omega) hL 3 rfl
  refine lv_aload_n hx hb dL_law_328 rfl (lv_at hl 1 rfl) ?_
  refine lv_aload_n hx hb dL_law_329 rfl (lv_at hl 0 rfl) ?_
  refine lv_iload hx hb dL_law_330 (lv_at hl 4 rfl) ?_
  refine lv_iconst (v := 1) hx hb dL_law_332 (by decide) ?_
  refine lv_iadd hx hb dL_law_333 ?_
  refine va_sld hx hb hX hbl hbA hS v1 dL_law_334 ?_
  refine lv_aload_n hx hb dL_law_335 rfl (lv_at hl 3 rfl) ?_
  obtain ⟨k, o2, σ2, z, dM, hdM, hI2, h0, hH, hM⟩ := both_keep hst hj hI o (xs (nI i + 1).toNatClampNeg)
  refine l_S (rest := []) hx hb hml hown hts (hH D A cI cB cJ ra oa _) q525 q526 q20 q527 nL_keep ⟨Nat.le_of_ble_eq_true rfl, Nat.le_of_ble_eq_true rfl⟩ hl.1 rfl rfl (Nat.le_of_ble_eq_true rfl) dL_law_336 hC lPre_bl (lPre_go hP hKL hD hA hN hT hNX hS) hS (fun H locs hP hS => ?_)
  refine lv_istore (lv' := [(5, .int k), (0, .ref b), (1, .ref (ra 0)), (2, .ref (ma 0)), (3, .ref oa), (4, .int (nI i))]) hx hb dL_law_339 hl (by decide) rfl (fun ls hl => ?_)
  refine lv_aload_n hx hb dL_law_341 rfl (lv_at hl 3 rfl) ?_
  refine lv_aload_n hx hb dL_law_342 rfl (lv_at hl 1 rfl) ?_
  refine lv_iload hx hb dL_law_343 (lv_at hl 5 rfl) ?_
  refine lv_iconst (v := 1) hx hb dL_law_345 (by decide) ?_
  refine lv_iadd hx hb dL_law_346 ?_
  refine va_sld hx hb hX hbl hbA hS v1 dL_law_347 ?_
  have hP := bw_P hP
  have hD : va_D A (BM cI cB cJ cI2 cJ2 ra ma oa o2 th σ2 σ) := bw_D hD
  refine i_V (C := RX5) (rest := []) hx hb hml hown hts (hM D A cI2 cJ2 ma th _) q767 q768 q769 q26 q770 rfl nX5_keep ⟨show dM + 1 ≤ 20 by omega, show 8 + (4 + 11) + 40 * dM ≤ 10844 by omega⟩ hl.1 rfl rfl (Nat.le_of_ble_eq_true rfl) dL_law_348 hC mPre_bl (va_recv hKM hP (ci := 5) (q0 := 0) rfl rfl) (mPre_go hP hKM hD) hS (fun H locs hP hS => ?_)
  have hD : va_D A (BM cI cB cJ cI2 cJ2 ra ma oa o2 k σ2 σ2) := bm_E hD
  refine lv_istore (lv' := [(6, .int z), (5, .int k), (0, .ref b), (1, .ref (ra 0)), (2, .ref (ma 0)), (3, .ref oa), (4, .int (nI i))]) hx hb dL_law_351 hl (by decide) rfl (fun ls hl => ?_)
  refine lv_aload_n hx hb dL_law_353 rfl (lv_at hl 4 rfl) ?_
  refine p_V (C := RX5) (rest := []) hx hb hml hown hts (m_X5_thrown l D A cI2 cJ2 ma k σ2 _) q618 q619 q620 q26 q621 rfl nX5_thrown ⟨Nat.le_of_ble_eq_true rfl, Nat.le_of_ble_eq_true rfl⟩ hl.1 rfl rfl (Nat.le_of_ble_eq_true rfl) dL_law_354 hC mPre_bl (va_recv hKM hP (ci := 5) (q0 := 0) rfl rfl) (mPre_go hP hKM hD) ?_
  refine lv_iload hx hb dL_law_357 (lv_at hl 1 rfl) ?_
  refine c_icmp_eq (tgt := 364) hx hb dL_law_359 (by decide) (fun _ => ?_) (fun q => absurd rfl q)
  refine lv_iload hx hb dL_law_364 (lv_at hl 1 rfl) ?_
  refine c_if_ne (tgt := 381) hx hb dL_law_366 (by decide) (fun _ => ?_) (fun hk => ?_)
  · refine lv_goto (tgt := 671) hx hb dL_law_381 (by decide) ?_
    exact kk H locs o2 σ2 k ls hI2 (bm_P hP) (bm_D hD) hS (lv_sub hl [2, 3, 4, 5, 6] rfl)
  · refine lv_aload_n hx hb dL_law_369 rfl (lv_at hl 5 rfl) ?_
    refine lv_iconst (v := 0) hx hb dL_law_370 (by decide) ?_
    refine va_lald (f := o2) hx hb hKL hP 33 2 rfl rfl (show vp_in 0 1 by unfold vp_in; decide) dL_law_371 ?_
    refine p_top (w := .long (o2 0)) rfl ?_
    refine lv_iload hx hb dL_law_372 (lv_at hl 0 rfl) ?_
    refine lv_i2l hx hb dL_law_374 rfl ?_
    refine c_lcmp_eq (tgt := 381) hx hb dL_law_375 dL_law_376 (by decide) (fun _ => ?_) (fun q => absurd (h0 hk) q)
    refine lv_goto (tgt := 671) hx hb dL_law_381 (by decide) ?_
    exact kk H locs o2 σ2 k ls hI2 (bm_P hP) (bm_D hD) hS (lv_sub hl [2, 3, 4, 5, 6] rfl)
set_option maxHeartbeats 4000000 in
set_option maxRecDepth 100000 in
theorem law_c5 {p : Program} {l : Launch} {e : Env} {s : State} {m : MethodId} {below : List Frame} {meth : Method} {c : Code} {b L : Nat} {xs : Nat → Int32} {D : va_G} {A : Nat → Prop} {cI cB cJ cI2 cJ2 : ClassId} (F : LF p s m meth c b L xs D A cI cB cJ cI2 cJ2) (hst : l.stackTraces = false) {σ : St} {j i : Nat} (hj : j ≤ 4096) (hI : Inv σ j) (hi : i + 4 ≤ L) {o : Nat → Int64} {ra ma : Nat → Nat} {oa : Nat} {th : Int32} {H : Heap} {locs : List Loc} {cells slots : Nat} (hC : cells + 1 ≤ room_1.cells ∧ slots + 6 ≤ room_1.slots) {Q : State → Prop} {ls : Array Slot}
    (hP : va_P D vwCl (BW cI cB cJ cI2 cJ2 ra ma oa o th σ σ) H) (hD : va_D A (BW cI cB cJ cI2 cJ2 ra ma oa o th σ σ)) (hS : va_S A s.heap H locs) (hl : lv_has ls 8 (lvL b ra ma oa i))
    (kk : ∀ (H : Heap) (locs : List Loc) (o : Nat → Int64) (σ : St) (th : Int32) (ls : Array Slot), Inv σ (j + 1) → va_P D vwCl (BW cI cB cJ cI2 cJ2 ra ma oa o th σ σ) H → va_D A (BW cI cB cJ cI2 cJ2 ra ma oa o th σ σ) → va_S A s.heap H locs → lv_has ls 8 (lvL b ra ma oa i) → W p l e room_1 s m #[Value.ref b] below meth c H locs (cells + 1) (slots + 6) Q (F0 m 671 ls [])) : W p l e room_1 s m #[Value.ref b] below meth c H locs cells slots Q (F0 m 384 ls []) := by
  obtain ⟨hx, hb, hr, hml, hown, hts, hX, hbl, hbA, hlocks, hKL, hKM, hA, hN, hT, hNX, hL, -⟩ := F
  have hK : va_K D vwCl (tyR cI cB) s := hKL.sub [0, 1] rfl
  have v1 : vp_in (nI i + 1) L := nI_k (k := 1) (by omega) hL 1 rfl
  have v2 : vp_in (nI i + 2) L := nI_k (k := 2) (by omega) hL 2 rfl
  have v3 : vp_in (nI i + 3) L := nI_k (k := 3) (by omega) hL 3 rfl
  refine W.widen (k := cells + 1) (n := slots + 6) (by omega) (by omega) ?_
  refine lv_aload_n hx hb dL_law_384 rfl (lv_at hl 1 rfl) ?_
  refine p_V (C := RX4) (rest := []) hx hb hml hown hts (m_X4_failed l D A cI cB ra σ _) q147 q148 q149 q21 q150 rfl nX4_failed ⟨Nat.le_of_ble_eq_true rfl, Nat.le_of_ble_eq_true rfl⟩ hl.1 rfl rfl (Nat.le_of_ble_eq_true rfl) dL_law_385 hC rPre_bl (va_recv hK hP (ci := 4) (q0 := 0) rfl rfl) (rPre_go hP hK hD hA hN hT hS) ?_
  have hP : va_P D vwCl (BM cI cB cJ cI2 cJ2 ra ma oa o th σ σ) H := bw_P hP
  have hD : va_D A (BM cI cB cJ cI2 cJ2 ra ma oa o th σ σ) := bw_D hD
  refine lv_aload_n hx hb dL_law_388 rfl (lv_at hl 2 rfl) ?_
  refine i_V (C := RX5) (rest := [.int (sX4_failed σ)]) hx hb hml hown hts (m_X5_failed l D A cI2 cJ2 ma th σ _) q771 q772 q773 q26 q774 rfl nX5_failed ⟨Nat.le_of_ble_eq_true rfl, Nat.le_of_ble_eq_true rfl⟩ hl.1 rfl rfl (Nat.le_of_ble_eq_true rfl) dL_law_389 hC mPre_bl (va_recv hKM hP (ci := 5) (q0 := 0) rfl rfl) (mPre_go hP hKM hD) hS (fun H locs hP hS => ?_)
  have hP : va_P D vwCl (BM cI cB cJ cI2 cJ2 ra ma oa o 0 σ σ) H := hP
  have hD : va_D A (BM cI cB cJ cI2 cJ2 ra ma oa o 0 σ σ) := bm_E hD
  refine c_icmp_eq (tgt := 671) hx hb dL_law_392 (by decide) (fun _ => ?_) (fun q => absurd rfl q)
  have hI2 := hI.mono
  exact kk H locs o σ 0 ls hI2 (bm_P hP) (bm_D hD) hS hl
set_option maxHeartbeats 4000000 in
set_option maxRecDepth 100000 in
theorem law_c6 {p : Program} {l : Launch} {e : Env} {s : State} {m : MethodId} {below : List Frame} {meth : Method} {c : Code} {b L : Nat} {xs : Nat → Int32} {D : va_G} {A : Nat → Prop} {cI cB cJ cI2 cJ2 : ClassId} (F : LF p s m meth c b L xs D A cI cB cJ cI2 cJ2) (hst : l.stackTraces = false) {σ : St} {j i : Nat} (hj : j ≤ 4096) (hI : Inv σ j) (hi : i + 4 ≤ L) {o : Nat → Int64} {ra ma : Nat → Nat} {oa : Nat} {th : Int32} {H : Heap} {locs : List Loc} {cells slots : Nat} (hC : cells + 1 ≤ room_1.cells ∧ slots + 6 ≤ room_1.slots) {Q : State → Prop} {ls : Array Slot}
    (hP : va_P D vwCl (BW cI cB cJ cI2 cJ2 ra ma oa o th σ σ) H) (hD : va_D A (BW cI cB cJ cI2 cJ2 ra ma oa o th σ σ)) (hS : va_S A s.heap H locs) (hl : lv_has ls 8 (lvL b ra ma oa i))
    (kk : ∀ (H : Heap) (locs : List Loc) (o : Nat → Int64) (σ : St) (th : Int32) (ls : Array Slot), Inv σ (j + 1) → va_P D vwCl (BW cI cB cJ cI2 cJ2 ra ma oa o th σ σ) H → va_D A (BW cI cB cJ cI2 cJ2 ra ma oa o th σ σ) → va_S A s.heap H locs → lv_has ls 8 (lvL b ra ma oa i) → W p l e room_1 s m #[Value.ref b] below meth c H locs (cells + 1) (slots + 6) Q (F0 m 671 ls [])) : W p l e room_1 s m #[Value.ref b] below meth c H locs cells slots Q (F0 m 397 ls []) := by
  obtain ⟨hx, hb, hr, hml, hown, hts, hX, hbl, hbA, hlocks, hKL, hKM, hA, hN, hT, hNX, hL, -⟩ := F
  have hK : va_K D vwCl (tyR cI cB) s := hKL.sub [0, 1] rfl
  have v1 : vp_in (nI i + 1) L := nI_k (k := 1) (by omega) hL 1 rfl
  have v2 : vp_in (nI i + 2) L := nI_k (k := 2) (by omega) hL 2 rfl
  have v3 : vp_in (nI i + 3) L := nI_k (k := 3) (by omega) hL 3 rfl
  refine lv_aload_n hx hb dL_law_397 rfl (lv_at hl 1 rfl) ?_
  refine lv_aload_n hx hb dL_law_398 rfl (lv_at hl 0 rfl) ?_
  refine lv_iload hx hb dL_law_399 (lv_at hl 4 rfl) ?_
  refine lv_iconst (v := 1) hx hb dL_law_401 (by decide) ?_
  refine lv_iadd hx hb dL_law_402 ?_
  refine va_sld hx hb hX hbl hbA hS v1 dL_law_403 ?_
  refine lv_aload_n hx hb dL_law_404 rfl (lv_at hl 0 rfl) ?_
  refine lv_iload hx hb dL_law_405 (lv_at hl 4 rfl) ?_
  refine lv_iconst (v := 2) hx hb dL_law_407 (by decide) ?_
  refine lv_iadd hx hb dL_law_408 ?_
  refine va_sld hx hb hX hbl hbA hS v2 dL_law_409 ?_
  refine lv_aload_n hx hb dL_law_410 rfl (lv_at hl 3 rfl) ?_
  obtain ⟨k, o2, σ2, z, dM, hdM, hI2, h0, hH, hM⟩ := both_reach hst hj hI o (xs (nI i + 1).toNatClampNeg) (xs (nI i + 2).toNatClampNeg)
  refine l_S (rest := []) hx hb hml hown hts (hH D A cI cB cJ ra oa _) q532 q533 q20 q534 nL_reach ⟨Nat.le_of_ble_eq_true rfl, Nat.le_of_ble_eq_true rfl⟩ hl.1 rfl rfl (Nat.le_of_ble_eq_true rfl) dL_law_411 hC lPre_bl (lPre_go hP hKL hD hA hN hT hNX hS) hS (fun H locs hP hS => ?_)
  refine lv_istore (lv' := [(5, .int k), (0, .ref b), (1, .ref (ra 0)), (2, .ref (ma 0)), (3, .ref oa), (4, .int (nI i))]) hx hb dL_law_414 hl (by decide) rfl (fun ls hl => ?_)
  refine lv_aload_n hx hb dL_law_416 rfl (lv_at hl 3 rfl) ?_
  refine lv_aload_n hx hb dL_law_417 rfl (lv_at hl 1 rfl) ?_
  refine lv_iload hx hb dL_law_418 (lv_at hl 5 rfl) ?_
  refine lv_iconst (v := 1) hx hb dL_law_420 (by decide) ?_
  refine lv_iadd hx hb dL_law_421 ?_
  refine va_sld hx hb hX hbl hbA hS v1 dL_law_422 ?_
  refine lv_aload_n hx hb dL_law_423 rfl (lv_at hl 1 rfl) ?_
  refine lv_iload hx hb dL_law_424 (lv_at hl 5 rfl) ?_
  refine lv_iconst (v := 2) hx hb dL_law_426 (by decide) ?_
  refine lv_iadd hx hb dL_law_427 ?_
  refine va_sld hx hb hX hbl hbA hS v2 dL_law_428 ?_
  have hP := bw_P hP
  have hD : va_D A (BM cI cB cJ cI2 cJ2 ra ma oa o2 th σ2 σ) := bw_D hD
  refine i_V (C := RX5) (rest := []) hx hb hml hown hts (hM D A cI2 cJ2 ma th _) q775 q776 q777 q26 q778 rfl nX5_reach ⟨show dM + 1 ≤ 20 by omega, show 8 + (14 + 11) + 40 * dM ≤ 10844 by omega⟩ hl.1 rfl rfl (Nat.le_of_ble_eq_true rfl) dL_law_429 hC mPre_bl (va_recv hKM hP (ci := 5) (q0 := 0) rfl rfl) (mPre_go hP hKM hD) hS (fun H locs hP hS => ?_)
  have hD : va_D A (BM cI cB cJ cI2 cJ2 ra ma oa o2 k σ2 σ2) := bm_E hD
  refine lv_lstore (lv' := [(6, .long z), (5, .int k), (0, .ref b), (1, .ref (ra 0)), (2, .ref (ma 0)), (3, .ref oa), (4, .int (nI i))]) hx hb dL_law_432 hl (by decide) rfl (fun ls hl => ?_)
  refine lv_aload_n hx hb dL_law_434 rfl (lv_at hl 4 rfl) ?_
  refine p_V (C := RX5) (rest := []) hx hb hml hown hts (m_X5_thrown l D A cI2 cJ2 ma k σ2 _) q618 q619 q620 q26 q621 rfl nX5_thrown ⟨Nat.le_of_ble_eq_true rfl, Nat.le_of_ble_eq_true rfl⟩ hl.1 rfl rfl (Nat.le_of_ble_eq_true rfl) dL_law_435 hC mPre_bl (va_recv hKM hP (ci := 5) (q0 := 0) rfl rfl) (mPre_go hP hKM hD) ?_
  refine lv_iload hx hb dL_law_438 (lv_at hl 1 rfl) ?_
  refine c_icmp_eq (tgt := 445) hx hb dL_law_440 (by decide) (fun _ => ?_) (fun q => absurd rfl q)
  refine lv_iload hx hb dL_law_445 (lv_at hl 1 rfl) ?_
  refine c_if_ne (tgt := 461) hx hb dL_law_447 (by decide) (fun _ => ?_) (fun hk => ?_)
  · refine lv_goto (tgt := 671) hx hb dL_law_461 (by decide) ?_
    exact kk H locs o2 σ2 k ls hI2 (bm_P hP) (bm_D hD) hS (lv_sub hl [2, 3, 4, 5, 6] rfl)
  · refine lv_aload_n hx hb dL_law_450 rfl (lv_at hl 5 rfl) ?_
    refine lv_iconst (v := 0) hx hb dL_law_451 (by decide) ?_
    refine va_lald (f := o2) hx hb hKL hP 33 2 rfl rfl (show vp_in 0 1 by unfold vp_in; decide) dL_law_452 ?_
    refine p_top (w := .long (o2 0)) rfl ?_
    refine lv_lload hx hb dL_law_453 (lv_at hl 0 rfl) ?_
    refine c_lcmp_eq (tgt := 461) hx hb dL_law_455 dL_law_456 (by decide) (fun _ => ?_) (fun q => absurd (h0 hk) q)
    refine lv_goto (tgt := 671) hx hb dL_law_461 (by decide) ?_
    exact kk H locs o2 σ2 k ls hI2 (bm_P hP) (bm_D hD) hS (lv_sub hl [2, 3, 4, 5, 6] rfl)
set_option maxHeartbeats 4000000 in
set_option maxRecDepth 100000 in
theorem law_c7a {p : Program} {l : Launch} {e : Env} {s : State} {m : MethodId} {below : List Frame} {meth : Method} {c : Code} {b L : Nat} {xs : Nat → Int32} {D : va_G} {A : Nat → Prop} {cI cB cJ cI2 cJ2 : ClassId} (F : LF p s m meth c b L xs D A cI cB cJ cI2 cJ2) (hst : l.stackTraces = false) {σ : St} {j i : Nat} (hj : j ≤ 4096) (hI : Inv σ j) (hi : i + 4 ≤ L) {o : Nat → Int64} {ra ma : Nat → Nat} {oa : Nat} {th : Int32} {H : Heap} {locs : List Loc} {cells slots : Nat} (hC : cells + 1 ≤ room_1.cells ∧ slots + 6 ≤ room_1.slots) {Q : State → Prop} {ls : Array Slot} (h7 : xs (nI i + 2).toNatClampNeg = 0)
    (hP : va_P D vwCl (BW cI cB cJ cI2 cJ2 ra ma oa o th σ σ) H) (hD : va_D A (BW cI cB cJ cI2 cJ2 ra ma oa o th σ σ)) (hS : va_S A s.heap H locs) (hl : lv_has ls 8 (lvL b ra ma oa i))
    (kk : ∀ (H : Heap) (locs : List Loc) (o : Nat → Int64) (σ : St) (th : Int32) (ls : Array Slot), Inv σ (j + 1) → va_P D vwCl (BW cI cB cJ cI2 cJ2 ra ma oa o th σ σ) H → va_D A (BW cI cB cJ cI2 cJ2 ra ma oa o th σ σ) → va_S A s.heap H locs → lv_has ls 8 (lvL b ra ma oa i) → W p l e room_1 s m #[Value.ref b] below meth c H locs (cells + 1) (slots + 6) Q (F0 m 671 ls [])) : W p l e room_1 s m #[Value.ref b] below meth c H locs cells slots Q (F0 m 464 ls []) := by
  obtain ⟨hx, hb, hr, hml, hown, hts, hX, hbl, hbA, hlocks, hKL, hKM, hA, hN, hT, hNX, hL, -⟩ := F
  have hK : va_K D vwCl (tyR cI cB) s := hKL.sub [0, 1] rfl
  have v1 : vp_in (nI i + 1) L := nI_k (k := 1) (by omega) hL 1 rfl
  have v2 : vp_in (nI i + 2) L := nI_k (k := 2) (by omega) hL 2 rfl
  have v3 : vp_in (nI i + 3) L := nI_k (k := 3) (by omega) hL 3 rfl
  refine lv_aload_n hx hb dL_law_464 rfl (lv_at hl 1 rfl) ?_
  refine lv_aload_n hx hb dL_law_465 rfl (lv_at hl 0 rfl) ?_
  refine lv_iload hx hb dL_law_466 (lv_at hl 4 rfl) ?_
  refine lv_iconst (v := 1) hx hb dL_law_468 (by decide) ?_
  refine lv_iadd hx hb dL_law_469 ?_
  refine va_sld hx hb hX hbl hbA hS v1 dL_law_470 ?_
  refine lv_aload_n hx hb dL_law_471 rfl (lv_at hl 0 rfl) ?_
  refine lv_iload hx hb dL_law_472 (lv_at hl 4 rfl) ?_
  refine lv_iconst (v := 2) hx hb dL_law_474 (by decide) ?_
  refine lv_iadd hx hb dL_law_475 ?_
  refine va_sld hx hb hX hbl hbA hS v2 dL_law_476 ?_
  refine c_if_eq (tgt := 484) hx hb dL_law_477 (by decide) (fun _ => ?_) (fun q => absurd h7 q)
  refine lv_iconst (v := 0) hx hb dL_law_484 (by decide) ?_
  refine lv_aload_n hx hb dL_law_485 rfl (lv_at hl 3 rfl) ?_
  obtain ⟨k, o2, σ2, z, dM, hdM, hI2, h0, hH, hM⟩ := both_top hst hj hI o (xs (nI i + 1).toNatClampNeg) 0
  refine l_S (rest := []) hx hb hml hown hts (hH D A cI cB cJ ra oa _) q549 q550 q20 q551 nL_top ⟨Nat.le_of_ble_eq_true rfl, Nat.le_of_ble_eq_true rfl⟩ hl.1 rfl rfl (Nat.le_of_ble_eq_true rfl) dL_law_486 hC lPre_bl (lPre_go hP hKL hD hA hN hT hNX hS) hS (fun H locs hP hS => ?_)
  refine lv_istore (lv' := [(5, .int k), (0, .ref b), (1, .ref (ra 0)), (2, .ref (ma 0)), (3, .ref oa), (4, .int (nI i))]) hx hb dL_law_489 hl (by decide) rfl (fun ls hl => ?_)
  refine lv_aload_n hx hb dL_law_491 rfl (lv_at hl 3 rfl) ?_
  refine lv_aload_n hx hb dL_law_492 rfl (lv_at hl 1 rfl) ?_
  refine lv_iload hx hb dL_law_493 (lv_at hl 5 rfl) ?_
  refine lv_iconst (v := 1) hx hb dL_law_495 (by decide) ?_
  refine lv_iadd hx hb dL_law_496 ?_
  refine va_sld hx hb hX hbl hbA hS v1 dL_law_497 ?_
  refine lv_aload_n hx hb dL_law_498 rfl (lv_at hl 1 rfl) ?_
  refine lv_iload hx hb dL_law_499 (lv_at hl 5 rfl) ?_
  refine lv_iconst (v := 2) hx hb dL_law_501 (by decide) ?_
  refine lv_iadd hx hb dL_law_502 ?_
  refine va_sld hx hb hX hbl hbA hS v2 dL_law_503 ?_
  refine c_if_eq (tgt := 511) hx hb dL_law_504 (by decide) (fun _ => ?_) (fun q => absurd h7 q)
  refine lv_iconst (v := 0) hx hb dL_law_511 (by decide) ?_
  have hP := bw_P hP
  have hD : va_D A (BM cI cB cJ cI2 cJ2 ra ma oa o2 th σ2 σ) := bw_D hD
  refine i_V (C := RX5) (rest := []) hx hb hml hown hts (hM D A cI2 cJ2 ma th _) q779 q780 q781 q26 q782 rfl nX5_top ⟨show dM + 1 ≤ 20 by omega, show 8 + (9 + 11) + 40 * dM ≤ 10844 by omega⟩ hl.1 rfl rfl (Nat.le_of_ble_eq_true rfl) dL_law_512 hC mPre_bl (va_recv hKM hP (ci := 5) (q0 := 0) rfl rfl) (mPre_go hP hKM hD) hS (fun H locs hP hS => ?_)
  have hD : va_D A (BM cI cB cJ cI2 cJ2 ra ma oa o2 k σ2 σ2) := bm_E hD
  refine lv_istore (lv' := [(6, .int z), (5, .int k), (0, .ref b), (1, .ref (ra 0)), (2, .ref (ma 0)), (3, .ref oa), (4, .int (nI i))]) hx hb dL_law_515 hl (by decide) rfl (fun ls hl => ?_)
  refine lv_aload_n hx hb dL_law_517 rfl (lv_at hl 4 rfl) ?_
  refine p_V (C := RX5) (rest := []) hx hb hml hown hts (m_X5_thrown l D A cI2 cJ2 ma k σ2 _) q618 q619 q620 q26 q621 rfl nX5_thrown ⟨Nat.le_of_ble_eq_true rfl, Nat.le_of_ble_eq_true rfl⟩ hl.1 rfl rfl (Nat.le_of_ble_eq_true rfl) dL_law_518 hC mPre_bl (va_recv hKM hP (ci := 5) (q0 := 0) rfl rfl) (mPre_go hP hKM hD) ?_
  refine lv_iload hx hb dL_law_521 (lv_at hl 1 rfl) ?_
  refine c_icmp_eq (tgt := 528) hx hb dL_law_523 (by decide) (fun _ => ?_) (fun q => absurd rfl q)
  refine lv_iload hx hb dL_law_528 (lv_at hl 1 rfl) ?_
  refine c_if_ne (tgt := 545) hx hb dL_law_530 (by decide) (fun _ => ?_) (fun hk => ?_)
  · refine lv_goto (tgt := 671) hx hb dL_law_545 (by decide) ?_
    exact kk H locs o2 σ2 k ls hI2 (bm_P hP) (bm_D hD) hS (lv_sub hl [2, 3, 4, 5, 6] rfl)
  · refine lv_aload_n hx hb dL_law_533 rfl (lv_at hl 5 rfl) ?_
    refine lv_iconst (v := 0) hx hb dL_law_534 (by decide) ?_
    refine va_lald (f := o2) hx hb hKL hP 33 2 rfl rfl (show vp_in 0 1 by unfold vp_in; decide) dL_law_535 ?_
    refine p_top (w := .long (o2 0)) rfl ?_
    refine lv_iload hx hb dL_law_536 (lv_at hl 0 rfl) ?_
    refine lv_i2l hx hb dL_law_538 rfl ?_
    refine c_lcmp_eq (tgt := 545) hx hb dL_law_539 dL_law_540 (by decide) (fun _ => ?_) (fun q => absurd (h0 hk) q)
    refine lv_goto (tgt := 671) hx hb dL_law_545 (by decide) ?_
    exact kk H locs o2 σ2 k ls hI2 (bm_P hP) (bm_D hD) hS (lv_sub hl [2, 3, 4, 5, 6] rfl)
set_option maxHeartbeats 4000000 in
set_option maxRecDepth 100000 in
theorem law_c7b {p : Program} {l : Launch} {e : Env} {s : State} {m : MethodId} {below : List Frame} {meth : Method} {c : Code} {b L : Nat} {xs : Nat → Int32} {D : va_G} {A : Nat → Prop} {cI cB cJ cI2 cJ2 : ClassId} (F : LF p s m meth c b L xs D A cI cB cJ cI2 cJ2) (hst : l.stackTraces = false) {σ : St} {j i : Nat} (hj : j ≤ 4096) (hI : Inv σ j) (hi : i + 4 ≤ L) {o : Nat → Int64} {ra ma : Nat → Nat} {oa : Nat} {th : Int32} {H : Heap} {locs : List Loc} {cells slots : Nat} (hC : cells + 1 ≤ room_1.cells ∧ slots + 6 ≤ room_1.slots) {Q : State → Prop} {ls : Array Slot} (h7 : ¬ xs (nI i + 2).toNatClampNeg = 0)
    (hP : va_P D vwCl (BW cI cB cJ cI2 cJ2 ra ma oa o th σ σ) H) (hD : va_D A (BW cI cB cJ cI2 cJ2 ra ma oa o th σ σ)) (hS : va_S A s.heap H locs) (hl : lv_has ls 8 (lvL b ra ma oa i))
    (kk : ∀ (H : Heap) (locs : List Loc) (o : Nat → Int64) (σ : St) (th : Int32) (ls : Array Slot), Inv σ (j + 1) → va_P D vwCl (BW cI cB cJ cI2 cJ2 ra ma oa o th σ σ) H → va_D A (BW cI cB cJ cI2 cJ2 ra ma oa o th σ σ) → va_S A s.heap H locs → lv_has ls 8 (lvL b ra ma oa i) → W p l e room_1 s m #[Value.ref b] below meth c H locs (cells + 1) (slots + 6) Q (F0 m 671 ls [])) : W p l e room_1 s m #[Value.ref b] below meth c H locs cells slots Q (F0 m 464 ls []) := by
  obtain ⟨hx, hb, hr, hml, hown, hts, hX, hbl, hbA, hlocks, hKL, hKM, hA, hN, hT, hNX, hL, -⟩ := F
  have hK : va_K D vwCl (tyR cI cB) s := hKL.sub [0, 1] rfl
  have v1 : vp_in (nI i + 1) L := nI_k (k := 1) (by omega) hL 1 rfl
  have v2 : vp_in (nI i + 2) L := nI_k (k := 2) (by omega) hL 2 rfl
  have v3 : vp_in (nI i + 3) L := nI_k (k := 3) (by omega) hL 3 rfl
  refine lv_aload_n hx hb dL_law_464 rfl (lv_at hl 1 rfl) ?_
  refine lv_aload_n hx hb dL_law_465 rfl (lv_at hl 0 rfl) ?_
  refine lv_iload hx hb dL_law_466 (lv_at hl 4 rfl) ?_
  refine lv_iconst (v := 1) hx hb dL_law_468 (by decide) ?_
  refine lv_iadd hx hb dL_law_469 ?_
  refine va_sld hx hb hX hbl hbA hS v1 dL_law_470 ?_
  refine lv_aload_n hx hb dL_law_471 rfl (lv_at hl 0 rfl) ?_
  refine lv_iload hx hb dL_law_472 (lv_at hl 4 rfl) ?_
  refine lv_iconst (v := 2) hx hb dL_law_474 (by decide) ?_
  refine lv_iadd hx hb dL_law_475 ?_
  refine va_sld hx hb hX hbl hbA hS v2 dL_law_476 ?_
  refine c_if_eq (tgt := 484) hx hb dL_law_477 (by decide) (fun q => absurd q h7) (fun _ => ?_)
  refine lv_iconst (v := 1) hx hb dL_law_480 (by decide) ?_
  refine lv_goto (tgt := 485) hx hb dL_law_481 (by decide) ?_
  refine lv_aload_n hx hb dL_law_485 rfl (lv_at hl 3 rfl) ?_
  obtain ⟨k, o2, σ2, z, dM, hdM, hI2, h0, hH, hM⟩ := both_top hst hj hI o (xs (nI i + 1).toNatClampNeg) 1
  refine l_S (rest := []) hx hb hml hown hts (hH D A cI cB cJ ra oa _) q549 q550 q20 q551 nL_top ⟨Nat.le_of_ble_eq_true rfl, Nat.le_of_ble_eq_true rfl⟩ hl.1 rfl rfl (Nat.le_of_ble_eq_true rfl) dL_law_486 hC lPre_bl (lPre_go hP hKL hD hA hN hT hNX hS) hS (fun H locs hP hS => ?_)
  refine lv_istore (lv' := [(5, .int k), (0, .ref b), (1, .ref (ra 0)), (2, .ref (ma 0)), (3, .ref oa), (4, .int (nI i))]) hx hb dL_law_489 hl (by decide) rfl (fun ls hl => ?_)
  refine lv_aload_n hx hb dL_law_491 rfl (lv_at hl 3 rfl) ?_
  refine lv_aload_n hx hb dL_law_492 rfl (lv_at hl 1 rfl) ?_
  refine lv_iload hx hb dL_law_493 (lv_at hl 5 rfl) ?_
  refine lv_iconst (v := 1) hx hb dL_law_495 (by decide) ?_
  refine lv_iadd hx hb dL_law_496 ?_
  refine va_sld hx hb hX hbl hbA hS v1 dL_law_497 ?_
  refine lv_aload_n hx hb dL_law_498 rfl (lv_at hl 1 rfl) ?_
  refine lv_iload hx hb dL_law_499 (lv_at hl 5 rfl) ?_
  refine lv_iconst (v := 2) hx hb dL_law_501 (by decide) ?_
  refine lv_iadd hx hb dL_law_502 ?_
  refine va_sld hx hb hX hbl hbA hS v2 dL_law_503 ?_
  refine c_if_eq (tgt := 511) hx hb dL_law_504 (by decide) (fun q => absurd q h7) (fun _ => ?_)
  refine lv_iconst (v := 1) hx hb dL_law_507 (by decide) ?_
  refine lv_goto (tgt := 512) hx hb dL_law_508 (by decide) ?_
  have hP := bw_P hP
  have hD : va_D A (BM cI cB cJ cI2 cJ2 ra ma oa o2 th σ2 σ) := bw_D hD
  refine i_V (C := RX5) (rest := []) hx hb hml hown hts (hM D A cI2 cJ2 ma th _) q779 q780 q781 q26 q782 rfl nX5_top ⟨show dM + 1 ≤ 20 by omega, show 8 + (9 + 11) + 40 * dM ≤ 10844 by omega⟩ hl.1 rfl rfl (Nat.le_of_ble_eq_true rfl) dL_law_512 hC mPre_bl (va_recv hKM hP (ci := 5) (q0 := 0) rfl rfl) (mPre_go hP hKM hD) hS (fun H locs hP hS => ?_)
  have hD : va_D A (BM cI cB cJ cI2 cJ2 ra ma oa o2 k σ2 σ2) := bm_E hD
  refine lv_istore (lv' := [(6, .int z), (5, .int k), (0, .ref b), (1, .ref (ra 0)), (2, .ref (ma 0)), (3, .ref oa), (4, .int (nI i))]) hx hb dL_law_515 hl (by decide) rfl (fun ls hl => ?_)
  refine lv_aload_n hx hb dL_law_517 rfl (lv_at hl 4 rfl) ?_
  refine p_V (C := RX5) (rest := []) hx hb hml hown hts (m_X5_thrown l D A cI2 cJ2 ma k σ2 _) q618 q619 q620 q26 q621 rfl nX5_thrown ⟨Nat.le_of_ble_eq_true rfl, Nat.le_of_ble_eq_true rfl⟩ hl.1 rfl rfl (Nat.le_of_ble_eq_true rfl) dL_law_518 hC mPre_bl (va_recv hKM hP (ci := 5) (q0 := 0) rfl rfl) (mPre_go hP hKM hD) ?_
  refine lv_iload hx hb dL_law_521 (lv_at hl 1 rfl) ?_
  refine c_icmp_eq (tgt := 528) hx hb dL_law_523 (by decide) (fun _ => ?_) (fun q => absurd rfl q)
  refine lv_iload hx hb dL_law_528 (lv_at hl 1 rfl) ?_
  refine c_if_ne (tgt := 545) hx hb dL_law_530 (by decide) (fun _ => ?_) (fun hk => ?_)
  · refine lv_goto (tgt := 671) hx hb dL_law_545 (by decide) ?_
    exact kk H locs o2 σ2 k ls hI2 (bm_P hP) (bm_D hD) hS (lv_sub hl [2, 3, 4, 5, 6] rfl)
  · refine lv_aload_n hx hb dL_law_533 rfl (lv_at hl 5 rfl) ?_
    refine lv_iconst (v := 0) hx hb dL_law_534 (by decide) ?_
    refine va_lald (f := o2) hx hb hKL hP 33 2 rfl rfl (show vp_in 0 1 by unfold vp_in; decide) dL_law_535 ?_
    refine p_top (w := .long (o2 0)) rfl ?_
    refine lv_iload hx hb dL_law_536 (lv_at hl 0 rfl) ?_
    refine lv_i2l hx hb dL_law_538 rfl ?_
    refine c_lcmp_eq (tgt := 545) hx hb dL_law_539 dL_law_540 (by decide) (fun _ => ?_) (fun q => absurd (h0 hk) q)
    refine lv_goto (tgt := 671) hx hb dL_law_545 (by decide) ?_
    exact kk H locs o2 σ2 k ls hI2 (bm_P hP) (bm_D hD) hS (lv_sub hl [2, 3, 4, 5, 6] rfl)
set_option maxHeartbeats 4000000 in
set_option maxRecDepth 100000 in
theorem law_c8 {p : Program} {l : Launch} {e : Env} {s : State} {m : MethodId} {below : List Frame} {meth : Method} {c : Code} {b L : Nat} {xs : Nat → Int32} {D : va_G} {A : Nat → Prop} {cI cB cJ cI2 cJ2 : ClassId} (F : LF p s m meth c b L xs D A cI cB cJ cI2 cJ2) (hst : l.stackTraces = false) {σ : St} {j i : Nat} (hj : j ≤ 4096) (hI : Inv σ j) (hi : i + 4 ≤ L) {o : Nat → Int64} {ra ma : Nat → Nat} {oa : Nat} {th : Int32} {H : Heap} {locs : List Loc} {cells slots : Nat} (hC : cells + 1 ≤ room_1.cells ∧ slots + 6 ≤ room_1.slots) {Q : State → Prop} {ls : Array Slot}
    (hP : va_P D vwCl (BW cI cB cJ cI2 cJ2 ra ma oa o th σ σ) H) (hD : va_D A (BW cI cB cJ cI2 cJ2 ra ma oa o th σ σ)) (hS : va_S A s.heap H locs) (hl : lv_has ls 8 (lvL b ra ma oa i))
    (kk : ∀ (H : Heap) (locs : List Loc) (o : Nat → Int64) (σ : St) (th : Int32) (ls : Array Slot), Inv σ (j + 1) → va_P D vwCl (BW cI cB cJ cI2 cJ2 ra ma oa o th σ σ) H → va_D A (BW cI cB cJ cI2 cJ2 ra ma oa o th σ σ) → va_S A s.heap H locs → lv_has ls 8 (lvL b ra ma oa i) → W p l e room_1 s m #[Value.ref b] below meth c H locs (cells + 1) (slots + 6) Q (F0 m 671 ls [])) : W p l e room_1 s m #[Value.ref b] below meth c H locs cells slots Q (F0 m 548 ls []) := by
  obtain ⟨hx, hb, hr, hml, hown, hts, hX, hbl, hbA, hlocks, hKL, hKM, hA, hN, hT, hNX, hL, -⟩ := F
  have hK : va_K D vwCl (tyR cI cB) s := hKL.sub [0, 1] rfl
  have v1 : vp_in (nI i + 1) L := nI_k (k := 1) (by omega) hL 1 rfl
  have v2 : vp_in (nI i + 2) L := nI_k (k := 2) (by omega) hL 2 rfl
  have v3 : vp_in (nI i + 3) L := nI_k (k := 3) (by omega) hL 3 rfl
  refine lv_aload_n hx hb dL_law_548 rfl (lv_at hl 1 rfl) ?_
  refine lv_aload_n hx hb dL_law_549 rfl (lv_at hl 0 rfl) ?_
  refine lv_iload hx hb dL_law_550 (lv_at hl 4 rfl) ?_
  refine lv_iconst (v := 1) hx hb dL_law_552 (by decide) ?_
  refine lv_iadd hx hb dL_law_553 ?_
  refine va_sld hx hb hX hbl hbA hS v1 dL_law_554 ?_
  refine lv_aload_n hx hb dL_law_555 rfl (lv_at hl 0 rfl) ?_
  refine lv_iload hx hb dL_law_556 (lv_at hl 4 rfl) ?_
  refine lv_iconst (v := 2) hx hb dL_law_558 (by decide) ?_
  refine lv_iadd hx hb dL_law_559 ?_
  refine va_sld hx hb hX hbl hbA hS v2 dL_law_560 ?_
  refine lv_aload_n hx hb dL_law_561 rfl (lv_at hl 3 rfl) ?_
  obtain ⟨k, o2, σ2, z, dM, hdM, hI2, h0, hH, hM⟩ := both_look hst hj hI o (xs (nI i + 1).toNatClampNeg) (xs (nI i + 2).toNatClampNeg)
  refine l_S (rest := []) hx hb hml hown hts (hH D A cI cB cJ ra oa _) q558 q559 q20 q560 nL_look ⟨Nat.le_of_ble_eq_true rfl, Nat.le_of_ble_eq_true rfl⟩ hl.1 rfl rfl (Nat.le_of_ble_eq_true rfl) dL_law_562 hC lPre_bl (lPre_go hP hKL hD hA hN hT hNX hS) hS (fun H locs hP hS => ?_)
  refine lv_istore (lv' := [(5, .int k), (0, .ref b), (1, .ref (ra 0)), (2, .ref (ma 0)), (3, .ref oa), (4, .int (nI i))]) hx hb dL_law_565 hl (by decide) rfl (fun ls hl => ?_)
  refine lv_aload_n hx hb dL_law_567 rfl (lv_at hl 3 rfl) ?_
  refine lv_aload_n hx hb dL_law_568 rfl (lv_at hl 1 rfl) ?_
  refine lv_iload hx hb dL_law_569 (lv_at hl 5 rfl) ?_
  refine lv_iconst (v := 1) hx hb dL_law_571 (by decide) ?_
  refine lv_iadd hx hb dL_law_572 ?_
  refine va_sld hx hb hX hbl hbA hS v1 dL_law_573 ?_
  refine lv_aload_n hx hb dL_law_574 rfl (lv_at hl 1 rfl) ?_
  refine lv_iload hx hb dL_law_575 (lv_at hl 5 rfl) ?_
  refine lv_iconst (v := 2) hx hb dL_law_577 (by decide) ?_
  refine lv_iadd hx hb dL_law_578 ?_
  refine va_sld hx hb hX hbl hbA hS v2 dL_law_579 ?_
  have hP := bw_P hP
  have hD : va_D A (BM cI cB cJ cI2 cJ2 ra ma oa o2 th σ2 σ) := bw_D hD
  refine i_V (C := RX5) (rest := []) hx hb hml hown hts (hM D A cI2 cJ2 ma th _) q783 q784 q785 q26 q786 rfl nX5_look ⟨show dM + 1 ≤ 20 by omega, show 8 + (3 + 11) + 40 * dM ≤ 10844 by omega⟩ hl.1 rfl rfl (Nat.le_of_ble_eq_true rfl) dL_law_580 hC mPre_bl (va_recv hKM hP (ci := 5) (q0 := 0) rfl rfl) (mPre_go hP hKM hD) hS (fun H locs hP hS => ?_)
  have hD : va_D A (BM cI cB cJ cI2 cJ2 ra ma oa o2 k σ2 σ2) := bm_E hD
  refine lv_lstore (lv' := [(6, .long z), (5, .int k), (0, .ref b), (1, .ref (ra 0)), (2, .ref (ma 0)), (3, .ref oa), (4, .int (nI i))]) hx hb dL_law_583 hl (by decide) rfl (fun ls hl => ?_)
  refine lv_aload_n hx hb dL_law_585 rfl (lv_at hl 4 rfl) ?_
  refine p_V (C := RX5) (rest := []) hx hb hml hown hts (m_X5_thrown l D A cI2 cJ2 ma k σ2 _) q618 q619 q620 q26 q621 rfl nX5_thrown ⟨Nat.le_of_ble_eq_true rfl, Nat.le_of_ble_eq_true rfl⟩ hl.1 rfl rfl (Nat.le_of_ble_eq_true rfl) dL_law_586 hC mPre_bl (va_recv hKM hP (ci := 5) (q0 := 0) rfl rfl) (mPre_go hP hKM hD) ?_
  refine lv_iload hx hb dL_law_589 (lv_at hl 1 rfl) ?_
  refine c_icmp_eq (tgt := 596) hx hb dL_law_591 (by decide) (fun _ => ?_) (fun q => absurd rfl q)
  refine lv_iload hx hb dL_law_596 (lv_at hl 1 rfl) ?_
  refine c_if_ne (tgt := 612) hx hb dL_law_598 (by decide) (fun _ => ?_) (fun hk => ?_)
  · refine lv_goto (tgt := 671) hx hb dL_law_612 (by decide) ?_
    exact kk H locs o2 σ2 k ls hI2 (bm_P hP) (bm_D hD) hS (lv_sub hl [2, 3, 4, 5, 6] rfl)
  · refine lv_aload_n hx hb dL_law_601 rfl (lv_at hl 5 rfl) ?_
    refine lv_iconst (v := 0) hx hb dL_law_602 (by decide) ?_
    refine va_lald (f := o2) hx hb hKL hP 33 2 rfl rfl (show vp_in 0 1 by unfold vp_in; decide) dL_law_603 ?_
    refine p_top (w := .long (o2 0)) rfl ?_
    refine lv_lload hx hb dL_law_604 (lv_at hl 0 rfl) ?_
    refine c_lcmp_eq (tgt := 612) hx hb dL_law_606 dL_law_607 (by decide) (fun _ => ?_) (fun q => absurd (h0 hk) q)
    refine lv_goto (tgt := 671) hx hb dL_law_612 (by decide) ?_
    exact kk H locs o2 σ2 k ls hI2 (bm_P hP) (bm_D hD) hS (lv_sub hl [2, 3, 4, 5, 6] rfl)
set_option maxHeartbeats 4000000 in
set_option maxRecDepth 100000 in
theorem law_c9 {p : Program} {l : Launch} {e : Env} {s : State} {m : MethodId} {below : List Frame} {meth : Method} {c : Code} {b L : Nat} {xs : Nat → Int32} {D : va_G} {A : Nat → Prop} {cI cB cJ cI2 cJ2 : ClassId} (F : LF p s m meth c b L xs D A cI cB cJ cI2 cJ2) (hst : l.stackTraces = false) {σ : St} {j i : Nat} (hj : j ≤ 4096) (hI : Inv σ j) (hi : i + 4 ≤ L) {o : Nat → Int64} {ra ma : Nat → Nat} {oa : Nat} {th : Int32} {H : Heap} {locs : List Loc} {cells slots : Nat} (hC : cells + 1 ≤ room_1.cells ∧ slots + 6 ≤ room_1.slots) {Q : State → Prop} {ls : Array Slot}
    (hP : va_P D vwCl (BW cI cB cJ cI2 cJ2 ra ma oa o th σ σ) H) (hD : va_D A (BW cI cB cJ cI2 cJ2 ra ma oa o th σ σ)) (hS : va_S A s.heap H locs) (hl : lv_has ls 8 (lvL b ra ma oa i))
    (kk : ∀ (H : Heap) (locs : List Loc) (o : Nat → Int64) (σ : St) (th : Int32) (ls : Array Slot), Inv σ (j + 1) → va_P D vwCl (BW cI cB cJ cI2 cJ2 ra ma oa o th σ σ) H → va_D A (BW cI cB cJ cI2 cJ2 ra ma oa o th σ σ) → va_S A s.heap H locs → lv_has ls 8 (lvL b ra ma oa i) → W p l e room_1 s m #[Value.ref b] below meth c H locs (cells + 1) (slots + 6) Q (F0 m 671 ls [])) : W p l e room_1 s m #[Value.ref b] below meth c H locs cells slots Q (F0 m 615 ls []) := by
  obtain ⟨hx, hb, hr, hml, hown, hts, hX, hbl, hbA, hlocks, hKL, hKM, hA, hN, hT, hNX, hL, -⟩ := F
  have hK : va_K D vwCl (tyR cI cB) s := hKL.sub [0, 1] rfl
  have v1 : vp_in (nI i + 1) L := nI_k (k := 1) (by omega) hL 1 rfl
  have v2 : vp_in (nI i + 2) L := nI_k (k := 2) (by omega) hL 2 rfl
  have v3 : vp_in (nI i + 3) L := nI_k (k := 3) (by omega) hL 3 rfl
  refine lv_aload_n hx hb dL_law_615 rfl (lv_at hl 1 rfl) ?_
  refine lv_aload_n hx hb dL_law_616 rfl (lv_at hl 0 rfl) ?_
  refine lv_iload hx hb dL_law_617 (lv_at hl 4 rfl) ?_
  refine lv_iconst (v := 1) hx hb dL_law_619 (by decide) ?_
  refine lv_iadd hx hb dL_law_620 ?_
  refine va_sld hx hb hX hbl hbA hS v1 dL_law_621 ?_
  refine lv_aload_n hx hb dL_law_622 rfl (lv_at hl 3 rfl) ?_
  obtain ⟨k, o2, σ2, z, dM, hdM, hI2, h0, hH, hM⟩ := both_forget hst hj hI o (xs (nI i + 1).toNatClampNeg)
  refine l_S (rest := []) hx hb hml hown hts (hH D A cI cB cJ ra oa _) q566 q567 q20 q568 nL_forget ⟨Nat.le_of_ble_eq_true rfl, Nat.le_of_ble_eq_true rfl⟩ hl.1 rfl rfl (Nat.le_of_ble_eq_true rfl) dL_law_623 hC lPre_bl (lPre_go hP hKL hD hA hN hT hNX hS) hS (fun H locs hP hS => ?_)
  refine lv_istore (lv' := [(5, .int k), (0, .ref b), (1, .ref (ra 0)), (2, .ref (ma 0)), (3, .ref oa), (4, .int (nI i))]) hx hb dL_law_626 hl (by decide) rfl (fun ls hl => ?_)
  refine lv_aload_n hx hb dL_law_628 rfl (lv_at hl 3 rfl) ?_
  refine lv_aload_n hx hb dL_law_629 rfl (lv_at hl 1 rfl) ?_
  refine lv_iload hx hb dL_law_630 (lv_at hl 5 rfl) ?_
  refine lv_iconst (v := 1) hx hb dL_law_632 (by decide) ?_
  refine lv_iadd hx hb dL_law_633 ?_
  refine va_sld hx hb hX hbl hbA hS v1 dL_law_634 ?_
  have hP := bw_P hP
  have hD : va_D A (BM cI cB cJ cI2 cJ2 ra ma oa o2 th σ2 σ) := bw_D hD
  refine i_V (C := RX5) (rest := []) hx hb hml hown hts (hM D A cI2 cJ2 ma th _) q787 q788 q789 q26 q790 rfl nX5_forget ⟨show dM + 1 ≤ 20 by omega, show 8 + (3 + 11) + 40 * dM ≤ 10844 by omega⟩ hl.1 rfl rfl (Nat.le_of_ble_eq_true rfl) dL_law_635 hC mPre_bl (va_recv hKM hP (ci := 5) (q0 := 0) rfl rfl) (mPre_go hP hKM hD) hS (fun H locs hP hS => ?_)
  have hD : va_D A (BM cI cB cJ cI2 cJ2 ra ma oa o2 k σ2 σ2) := bm_E hD
  refine lv_istore (lv' := [(6, .int z), (5, .int k), (0, .ref b), (1, .ref (ra 0)), (2, .ref (ma 0)), (3, .ref oa), (4, .int (nI i))]) hx hb dL_law_638 hl (by decide) rfl (fun ls hl => ?_)
  refine lv_aload_n hx hb dL_law_640 rfl (lv_at hl 4 rfl) ?_
  refine p_V (C := RX5) (rest := []) hx hb hml hown hts (m_X5_thrown l D A cI2 cJ2 ma k σ2 _) q618 q619 q620 q26 q621 rfl nX5_thrown ⟨Nat.le_of_ble_eq_true rfl, Nat.le_of_ble_eq_true rfl⟩ hl.1 rfl rfl (Nat.le_of_ble_eq_true rfl) dL_law_641 hC mPre_bl (va_recv hKM hP (ci := 5) (q0 := 0) rfl rfl) (mPre_go hP hKM hD) ?_
  refine lv_iload hx hb dL_law_644 (lv_at hl 1 rfl) ?_
  refine c_icmp_eq (tgt := 651) hx hb dL_law_646 (by decide) (fun _ => ?_) (fun q => absurd rfl q)
  refine lv_iload hx hb dL_law_651 (lv_at hl 1 rfl) ?_
  refine c_if_ne (tgt := 668) hx hb dL_law_653 (by decide) (fun _ => ?_) (fun hk => ?_)
  · refine lv_goto (tgt := 671) hx hb dL_law_668 (by decide) ?_
    exact kk H locs o2 σ2 k ls hI2 (bm_P hP) (bm_D hD) hS (lv_sub hl [2, 3, 4, 5, 6] rfl)
  · refine lv_aload_n hx hb dL_law_656 rfl (lv_at hl 5 rfl) ?_
    refine lv_iconst (v := 0) hx hb dL_law_657 (by decide) ?_
    refine va_lald (f := o2) hx hb hKL hP 33 2 rfl rfl (show vp_in 0 1 by unfold vp_in; decide) dL_law_658 ?_
    refine p_top (w := .long (o2 0)) rfl ?_
    refine lv_iload hx hb dL_law_659 (lv_at hl 0 rfl) ?_
    refine lv_i2l hx hb dL_law_661 rfl ?_
    refine c_lcmp_eq (tgt := 668) hx hb dL_law_662 dL_law_663 (by decide) (fun _ => ?_) (fun q => absurd (h0 hk) q)
    refine lv_goto (tgt := 671) hx hb dL_law_668 (by decide) ?_
    exact kk H locs o2 σ2 k ls hI2 (bm_P hP) (bm_D hD) hS (lv_sub hl [2, 3, 4, 5, 6] rfl)
