/-- the reference's tape: value, what is thrown, which order was refused -/
def mLoop (σ : St) (b : Int32) : Nat → Nat → Int64 → Int64 × Int32 × Int32
  | 0, _, v => (v, 0, -1)
  | n + 1, i, v => if sX5_refusal σ (zCds σ i) (zOps σ i) b v = 0 then mLoop σ b n (i + 1) (sX5_does σ (zCds σ i) (zOps σ i) b v) else (v, sX5_refusal σ (zCds σ i) (zOps σ i) b v, nI i)
theorem mRef_pos {σ : St} {a k b : Int32} {v : Int64} (h : ¬ sX5_refusal σ a k b v = 0) : 0 < sX5_refusal σ a k b v := by
  have h2 : sX5_refusal σ a k b v = 0 ∨ sX5_refusal σ a k b v = 2 ∨ sX5_refusal σ a k b v = 3 := by
    unfold sX5_refusal
    repeat' split
    all_goals first | exact Or.inl rfl | exact Or.inr (Or.inl rfl) | exact Or.inr (Or.inr rfl)
  rcases h2 with h2 | h2 | h2
  · exact absurd h2 h
  · rw [h2]; decide
  · rw [h2]; decide
/-- what 'does' needs -/
def doesOK (σ : St) (a k b : Int32) (v : Int64) : Prop := (sX5_isWhole b = 0 → okF b v) ∧ (a = (5 : Int32) → vp_in k 16) ∧ (a = (6 : Int32) → vp_in k 16) ∧ (a = (7 : Int32) → vp_in k 16) ∧ (a = (9 : Int32) → vp_in k 16) ∧ (a = (11 : Int32) → vp_in k 16) ∧ (a = (8 : Int32) → sX5_isWhole b = 0 → okP (k - 10)) ∧ (a = (9 : Int32) → sX5_isWhole b = 0 → okF b (zNow σ k.toNatClampNeg)) ∧ (a = (9 : Int32) → sX5_isWhole b = 0 → vf_n64 (FP.dadd (sX5_real b v) (sX5_real b (zNow σ k.toNatClampNeg)))) ∧ (sX5_isWhole b = 0 → sX5_isInfinite b v = 0 → vf_n64 (FP.dsub (sX5_real b v) (sX5_real b (sX5_cut b v (-1 : Int32)))))
theorem nIsB {g : Int32} (h : vp_in g 16) : ¬ sX5_isBalance g = 0 := by
  unfold sX5_isBalance
  rw [if_neg (fun q => h (Or.inl q)), if_pos (lt16 h)]
  decide
theorem nX5_done : yX5_done.cls ≠ "java/lang/invoke/MethodHandle" ∧ yX5_done.cls ≠ "java/lang/invoke/VarHandle" ∧ (parseMethodDescriptor yX5_done.desc).map (fun d => d.parameters.length) = some 1 := by decide +kernel
set_option maxHeartbeats 4000000 in
set_option maxRecDepth 100000 in
theorem m_X5_done (l : Launch) (D : va_G) (A : Nat → Prop) (cI cJ : ClassId) (ma : Nat → Nat) (th : Int32) (σ : St) (fr : va_W) (g : Int32) (n : Nat) (Vd : Int64 → Prop) (hg : vp_in g 16) (hc : ¬ zCnt σ g.toNatClampNeg = 0) (hn : zOrd σ = nI n) (hn12 : n ≤ 12) (hTk : ∀ i, i < n → ¬ sX5_asks (zCds (zSetRfs σ (-1 : Int32)) i) = 0 → vp_in (zOps (zSetRfs σ (-1 : Int32)) i) 16) (hV0 : Vd (zNow σ g.toNatClampNeg)) (hVs : ∀ i v, i < n → Vd v → sX5_refusal (zSetRfs σ (-1 : Int32)) (zCds (zSetRfs σ (-1 : Int32)) i) (zOps (zSetRfs σ (-1 : Int32)) i) (g / (4 : Int32)) v = 0 → doesOK (zSetRfs σ (-1 : Int32)) (zCds (zSetRfs σ (-1 : Int32)) i) (zOps (zSetRfs σ (-1 : Int32)) i) (g / (4 : Int32)) v ∧ Vd (sX5_does (zSetRfs σ (-1 : Int32)) (zCds (zSetRfs σ (-1 : Int32)) i) (zOps (zSetRfs σ (-1 : Int32)) i) (g / (4 : Int32)) v)) : IM l yX5_done cX5_done 6 (some .long) 6 [.ref (ma 0), .int g] (mPre D A cI cJ (MW cI cJ ma th σ fr)) D A (some (.long (if 0 < (mLoop (zSetRfs σ (-1 : Int32)) (g / (4 : Int32)) n 0 (zNow σ g.toNatClampNeg)).2.1 then 0 else (mLoop (zSetRfs σ (-1 : Int32)) (g / (4 : Int32)) n 0 (zNow σ g.toNatClampNeg)).1))) (MW cI cJ ma (mLoop (zSetRfs σ (-1 : Int32)) (g / (4 : Int32)) n 0 (zNow σ g.toNatClampNeg)).2.1 (zSetRfs (zSetRfs σ (-1 : Int32)) (mLoop (zSetRfs σ (-1 : Int32)) (g / (4 : Int32)) n 0 (zNow σ g.toNatClampNeg)).2.2) fr) := by
  refine Met.ofW (cc := cX5_done) (maxL := 6) (ret := (some .long)) (by decide) rfl ?_
  intro p e s m args below meth c s₁ B hml hv
  obtain ⟨rfl, hP, hK, hD⟩ := hv
  have hx := B.exec
  have hb := B.bytes
  have hr := B.returns
  have hts : ∀ w ∈ AW, w.before _ s = true := fun w h => atoms_spec (ws := Cond.code yX5_done cX5_done 6 (some .long) :: AW) B.pre w (List.mem_cons_of_mem _ h)
  have hown : s.vm.findClass RX5 = some m.cls := findClass_of_methodNamed B.named
  have hlocks := B.notSynchronized
  have hS : va_S A s.heap s.heap [] := va_S.rf
  have hl := lv_entry ([.ref (ma 0), .int g]) (n := 6) (Nat.le_of_ble_eq_true rfl)
  rw [lg_entry_eq]
  generalize (lg_sl ([.ref (ma 0), .int g]) ++ List.replicate (6 - (lg_sl ([.ref (ma 0), .int g])).length) Slot.unset).toArray = ls at hl ⊢
  have hl : lv_has ls 6 [(0, .ref (ma 0)), (1, .int g)] := hl
  have kn0 : ¬ (sX5_isBalance g) = 0 := nIsB hg
  have kn1 : ¬ (zCnt σ g.toNatClampNeg) = 0 := hc
  have kn2 : ¬ 0 < (0 : Int32) := by decide
  refine lv_aload_n hx hb dX5_done_0 rfl (lv_at hl 0 rfl) ?_
  refine lv_iconst (v := -1) hx hb dX5_done_1 (by decide) ?_
  refine va_put (C := RX5) (T := TX5) (N := 11) (ci := 5) (ty := .int) hx hb hts inX5 tyX5 tyX5_ok nmX5 hown hK hP hD hS 0 rfl rfl 10 (by decide) (hts _ q593) (fun _ h => h) rfl rfl rfl rfl (Nat.le_of_ble_eq_true rfl) dX5_done_2 (fun H locs hP hD hS => ?_)
  have hP : va_P D vwCl (MW cI cJ ma th ((zCnt σ), (zNow σ), (zLst σ), (zGst σ), (zSwg σ), (zTrd σ), (zCds σ), (zOps σ), (zOrd σ), (-1 : Int32)) fr) H := hP
  have hD : va_D A (MW cI cJ ma th ((zCnt σ), (zNow σ), (zLst σ), (zGst σ), (zSwg σ), (zTrd σ), (zCds σ), (zOps σ), (zOrd σ), (-1 : Int32)) fr) := hD
  refine lv_aload_n hx hb dX5_done_5 rfl (lv_at hl 0 rfl) ?_
  refine lv_iload_n hx hb dX5_done_6 rfl (lv_at hl 1 rfl) ?_
  refine p_S (rest := [.ref (ma 0)]) hx hb hml hown hts (m_X5_isBalance l g) q626 q627 q26 q628 nX5_isBalance ⟨Nat.le_of_ble_eq_true rfl, Nat.le_of_ble_eq_true rfl⟩ hl.1 rfl rfl (Nat.le_of_ble_eq_true rfl) dX5_done_7 ⟨Nat.zero_le _, Nat.zero_le _⟩ blind_c (fun _ _ _ => trivial) ?_
  refine c_if_ne (tgt := 17) hx hb dX5_done_10 (by decide) (fun _ => ?_) (fun hq => absurd hq kn0)
  refine lv_aload_n hx hb dX5_done_17 rfl (lv_at hl 0 rfl) ?_
  refine va_get (v := .ref (ma 1)) (C := RX5) (T := TX5) (N := 11) (ci := 5) hx hb hts inX5 hown hK hP 0 rfl rfl 1 (by decide) (hts _ q584) (fun _ h => h) rfl dX5_done_18 ?_
  refine lv_iload_n hx hb dX5_done_21 rfl (lv_at hl 1 rfl) ?_
  refine va_iald (f := (zCnt σ)) hx hb hK hP 1 0 rfl rfl (hg) dX5_done_22 ?_
  refine c_if_ne (tgt := 30) hx hb dX5_done_23 (by decide) (fun _ => ?_) (fun hq => absurd hq kn1)
  refine lv_iconst (v := 0) hx hb dX5_done_30 (by decide) ?_
  refine va_put (C := RX5) (T := TX5) (N := 11) (ci := 5) (ty := .int) hx hb hts inX5 tyX5 tyX5_ok nmX5 hown hK hP hD hS 0 rfl rfl 0 (by decide) (hts _ q583) (fun _ h => h) rfl rfl rfl rfl (Nat.le_of_ble_eq_true rfl) dX5_done_31 (fun H locs hP hD hS => ?_)
  have hP : va_P D vwCl (MW cI cJ ma (0 : Int32) ((zCnt σ), (zNow σ), (zLst σ), (zGst σ), (zSwg σ), (zTrd σ), (zCds σ), (zOps σ), (zOrd σ), (-1 : Int32)) fr) H := hP
  have hD : va_D A (MW cI cJ ma (0 : Int32) ((zCnt σ), (zNow σ), (zLst σ), (zGst σ), (zSwg σ), (zTrd σ), (zCds σ), (zOps σ), (zOrd σ), (-1 : Int32)) fr) := hD
  refine lv_aload_n hx hb dX5_done_34 rfl (lv_at hl 0 rfl) ?_
  refine va_get (v := .int (0 : Int32)) (C := RX5) (T := TX5) (N := 11) (ci := 5) hx hb hts inX5 hown hK hP 0 rfl rfl 0 (by decide) (hts _ q583) (fun _ h => h) rfl dX5_done_35 ?_
  refine c_if_le (tgt := 43) hx hb dX5_done_38 (by decide) (fun _ => ?_) (fun hq => absurd hq kn2)
  refine lv_iload_n hx hb dX5_done_43 rfl (lv_at hl 1 rfl) ?_
  refine lv_iconst (v := 4) hx hb dX5_done_44 (by decide) ?_
  refine lv_idiv hx hb dX5_done_45 (by decide) ?_
  refine lv_istore_n (lv' := [(2, .int (g / (4 : Int32))), (0, .ref (ma 0)), (1, .int g)]) hx hb dX5_done_46 rfl hl (by decide) rfl (fun ls hl => ?_)
  refine lv_aload_n hx hb dX5_done_47 rfl (lv_at hl 1 rfl) ?_
  refine va_get (v := .ref (ma 2)) (C := RX5) (T := TX5) (N := 11) (ci := 5) hx hb hts inX5 hown hK hP 0 rfl rfl 2 (by decide) (hts _ q585) (fun _ h => h) rfl dX5_done_48 ?_
  refine lv_iload_n hx hb dX5_done_51 rfl (lv_at hl 2 rfl) ?_
  refine va_lald (f := (zNow σ)) hx hb hK hP 2 1 rfl rfl (hg) dX5_done_52 ?_
  refine lv_lstore_n (lv' := [(3, .long (zNow σ g.toNatClampNeg)), (2, .int (g / (4 : Int32))), (0, .ref (ma 0)), (1, .int g)]) hx hb dX5_done_53 rfl hl (by decide) rfl (fun ls hl => ?_)
  refine lv_iconst (v := 0) hx hb dX5_done_54 (by decide) ?_
  refine lv_istore (lv' := [(5, .int (0 : Int32)), (3, .long (zNow σ g.toNatClampNeg)), (2, .int (g / (4 : Int32))), (0, .ref (ma 0)), (1, .int g)]) hx hb dX5_done_55 hl (by decide) rfl (fun ls hl => ?_)
  have hP : va_P D vwCl (MW cI cJ ma 0 (zSetRfs σ (-1 : Int32)) fr) H := hP
  have hD : va_D A (MW cI cJ ma 0 (zSetRfs σ (-1 : Int32)) fr) := hD
  have hO : zOrd (zSetRfs σ (-1 : Int32)) = nI n := hn
  generalize hτ : (zSetRfs σ (-1 : Int32)) = τ at hP hD hO hVs hTk ⊢
  have e0 : (0 : Int32) = nI (n - n) := by rw [Nat.sub_self]; rfl
  rw [e0] at hl
  refine i_loop (α := Int64) (J := 57) (nL := 6) (st := []) (fun k v => [(5, .int (nI (n - k))), (3, .long v), (2, .int (g / (4 : Int32))), (1, .int g), (0, .ref (ma 0))]) (fun _ _ => MW cI cJ ma 0 τ fr) (fun k v => k ≤ n ∧ Vd v ∧ mLoop τ (g / (4 : Int32)) k (n - k) v = mLoop τ (g / (4 : Int32)) n 0 (zNow σ g.toNatClampNeg)) (fun k v ls H locs hI hl hP hS ih => ?_) n (zNow σ g.toNatClampNeg) ⟨Nat.le_refl _, hV0, by rw [Nat.sub_self]⟩ ls (lv_sub hl [0, 1, 2, 4, 3] rfl) hP hS
  obtain ⟨hk, hv, hI⟩ := hI
  try dsimp only at hI hl
  refine lv_iload hx hb dX5_done_57 (lv_at hl 0 rfl) ?_
  refine lv_aload_n hx hb dX5_done_59 rfl (lv_at hl 4 rfl) ?_
  refine va_get (v := .int (zOrd τ)) (C := RX5) (T := TX5) (N := 11) (ci := 5) hx hb hts inX5 hown hK hP 0 rfl rfl 9 (by decide) (hts _ q592) (fun _ h => h) rfl dX5_done_60 ?_
  refine c_icmp_ge (tgt := 140) hx hb dX5_done_63 (by decide) (fun h => ?_) (fun h => ?_)
  · have hk0 : k = 0 := by
      rcases Nat.eq_zero_or_pos k with q | q
      · exact q
      · exact absurd (by rw [hO]; exact nI_lt (by omega) (by omega)) h
    subst hk0
    rw [mLoop] at hI
    refine lv_aload_n hx hb dX5_done_140 rfl (lv_at hl 4 rfl) ?_
    refine va_get (v := .int 0) (C := RX5) (T := TX5) (N := 11) (ci := 5) hx hb hts inX5 hown hK hP 0 rfl rfl 0 (by decide) (hts _ q583) (fun _ h => h) rfl dX5_done_141 ?_
    refine c_if_le (tgt := 151) hx hb dX5_done_144 (by decide) (fun _ => ?_) (fun q => absurd q (by decide))
    refine lv_lload_n hx hb dX5_done_151 rfl (lv_at hl 1 rfl) ?_
    refine W.lret hx hb hr (fun t ht hW => ⟨?_, ?_, hS.F ht⟩) hS.2.2 dX5_done_152
    · rw [← hI]; rfl
    · rw [← hI, ht, show (zSetRfs τ (v, (0 : Int32), (-1 : Int32)).2.2 : St) = τ by rw [← hτ]; rfl]; exact hP
  · obtain ⟨k, rfl⟩ : ∃ k2, k = k2 + 1 := by
      rcases k with _ | k2
      · exact absurd h (by rw [hO]; exact nI_nlt (Nat.le_refl _) (by omega))
      · exact ⟨k2, rfl⟩
    obtain ⟨i, hi⟩ : ∃ i, i = n - (k + 1) := ⟨_, rfl⟩
    rw [← hi] at hI hl h
    have hin : i < n := by omega
    have hi1 : i + 1 = n - k := by omega
    have eK : (nI i) + 1 = nI (n - k) := by rw [← nI_succ, hi1]
    rw [mLoop] at hI
    refine lv_aload_n hx hb dX5_done_66 rfl (lv_at hl 4 rfl) ?_
    refine va_get (v := .int 0) (C := RX5) (T := TX5) (N := 11) (ci := 5) hx hb hts inX5 hown hK hP 0 rfl rfl 0 (by decide) (hts _ q583) (fun _ h => h) rfl dX5_done_67 ?_
    refine c_if_ne (tgt := 140) hx hb dX5_done_70 (by decide) (fun q => absurd rfl q) (fun _ => ?_)
    refine lv_aload_n hx hb dX5_done_73 rfl (lv_at hl 4 rfl) ?_
    refine lv_aload_n hx hb dX5_done_74 rfl (lv_at hl 4 rfl) ?_
    refine lv_aload_n hx hb dX5_done_75 rfl (lv_at hl 4 rfl) ?_
    refine va_get (v := .ref (ma 7)) (C := RX5) (T := TX5) (N := 11) (ci := 5) hx hb hts inX5 hown hK hP 0 rfl rfl 7 (by decide) (hts _ q590) (fun _ h => h) rfl dX5_done_76 ?_
    refine lv_iload hx hb dX5_done_79 (lv_at hl 0 rfl) ?_
    refine va_iald (f := (zCds τ)) hx hb hK hP 7 0 rfl rfl (vp_in_nI (by omega) (by omega)) dX5_done_81 ?_
    refine p_top (w := .int (zCds τ i)) (by rw [nI_clamp (by omega)]) ?_
    refine lv_aload_n hx hb dX5_done_82 rfl (lv_at hl 4 rfl) ?_
    refine va_get (v := .ref (ma 8)) (C := RX5) (T := TX5) (N := 11) (ci := 5) hx hb hts inX5 hown hK hP 0 rfl rfl 8 (by decide) (hts _ q591) (fun _ h => h) rfl dX5_done_83 ?_
    refine lv_iload hx hb dX5_done_86 (lv_at hl 0 rfl) ?_
    refine va_iald (f := (zOps τ)) hx hb hK hP 8 0 rfl rfl (vp_in_nI (by omega) (by omega)) dX5_done_88 ?_
    refine p_top (w := .int (zOps τ i)) (by rw [nI_clamp (by omega)]) ?_
    refine lv_iload_n hx hb dX5_done_89 rfl (lv_at hl 2 rfl) ?_
    refine lv_lload_n hx hb dX5_done_90 rfl (lv_at hl 1 rfl) ?_
    refine p_V (C := RX5) (rest := [.ref (ma 0)]) hx hb hml hown hts (m_X5_refusal l D A cI cJ ma 0 τ fr (zCds τ i) (zOps τ i) (g / (4 : Int32)) v (hTk i hin)) q731 q733 q18 q26 q734 rfl nX5_refusal ⟨Nat.le_of_ble_eq_true rfl, Nat.le_of_ble_eq_true rfl⟩ hl.1 rfl rfl (Nat.le_of_ble_eq_true rfl) dX5_done_91 ⟨Nat.zero_le _, Nat.zero_le _⟩ mPre_bl (va_recv hK hP (ci := 5) (q0 := 0) rfl rfl) (mPre_go hP hK hD) ?_
    refine va_put (C := RX5) (T := TX5) (N := 11) (ci := 5) (ty := .int) hx hb hts inX5 tyX5 tyX5_ok nmX5 hown hK hP hD hS 0 rfl rfl 0 (by decide) (hts _ q583) (fun _ h => h) rfl rfl rfl rfl (Nat.le_of_ble_eq_true rfl) dX5_done_94 (fun H locs hP hD hS => ?_)
    have hP : va_P D vwCl (MW cI cJ ma (sX5_refusal τ (zCds τ i) (zOps τ i) (g / (4 : Int32)) v) τ fr) H := hP
    have hD : va_D A (MW cI cJ ma (sX5_refusal τ (zCds τ i) (zOps τ i) (g / (4 : Int32)) v) τ fr) := hD
    refine lv_aload_n hx hb dX5_done_97 rfl (lv_at hl 4 rfl) ?_
    refine va_get (v := .int (sX5_refusal τ (zCds τ i) (zOps τ i) (g / (4 : Int32)) v)) (C := RX5) (T := TX5) (N := 11) (ci := 5) hx hb hts inX5 hown hK hP 0 rfl rfl 0 (by decide) (hts _ q583) (fun _ h => h) rfl dX5_done_98 ?_
    refine c_if_ne (tgt := 128) hx hb dX5_done_101 (by decide) (fun hq => ?_) (fun hq => ?_)
    · rw [if_neg hq] at hI
      refine lv_aload_n hx hb dX5_done_128 rfl (lv_at hl 4 rfl) ?_
      refine lv_iload hx hb dX5_done_129 (lv_at hl 0 rfl) ?_
      refine va_put (C := RX5) (T := TX5) (N := 11) (ci := 5) (ty := .int) hx hb hts inX5 tyX5 tyX5_ok nmX5 hown hK hP hD hS 0 rfl rfl 10 (by decide) (hts _ q593) (fun _ h => h) rfl rfl rfl rfl (Nat.le_of_ble_eq_true rfl) dX5_done_131 (fun H locs hP hD hS => ?_)
      have hP : va_P D vwCl (MW cI cJ ma (sX5_refusal τ (zCds τ i) (zOps τ i) (g / (4 : Int32)) v) ((zCnt τ), (zNow τ), (zLst τ), (zGst τ), (zSwg τ), (zTrd τ), (zCds τ), (zOps τ), (zOrd τ), (nI i)) fr) H := hP
      have hD : va_D A (MW cI cJ ma (sX5_refusal τ (zCds τ i) (zOps τ i) (g / (4 : Int32)) v) ((zCnt τ), (zNow τ), (zLst τ), (zGst τ), (zSwg τ), (zTrd τ), (zCds τ), (zOps τ), (zOrd τ), (nI i)) fr) := hD
      refine lv_iinc (v := ((nI i) + 1)) (lv' := [(5, .int ((nI i) + 1)), (3, .long v), (2, .int (g / (4 : Int32))), (1, .int g), (0, .ref (ma 0))]) hx hb dX5_done_134 hl (k := 0) rfl (by first | rfl | decide) (by decide) rfl (fun ls hl => ?_)
      refine lv_goto (tgt := 57) hx hb dX5_done_137 (by decide) ?_
      refine lv_iload hx hb dX5_done_57 (lv_at hl 0 rfl) ?_
      refine lv_aload_n hx hb dX5_done_59 rfl (lv_at hl 4 rfl) ?_
      refine va_get (v := .int (zOrd τ)) (C := RX5) (T := TX5) (N := 11) (ci := 5) hx hb hts inX5 hown hK hP 0 rfl rfl 9 (by decide) (hts _ q592) (fun _ h => h) rfl dX5_done_60 ?_
      have hq0 : 0 < (sX5_refusal τ (zCds τ i) (zOps τ i) (g / (4 : Int32)) v) := mRef_pos hq
      refine p_join (J := 140) (nL := 6) (st := []) (lv := [(5, .int ((nI i) + 1)), (3, .long v), (2, .int (g / (4 : Int32))), (1, .int g), (0, .ref (ma 0))]) (fun ls hl => ?_) (fun KJ => ?_)
      rotate_left
      · refine c_icmp_ge (tgt := 140) hx hb dX5_done_63 (by decide) (fun _ => KJ ls hl) (fun _ => ?_)
        refine lv_aload_n hx hb dX5_done_66 rfl (lv_at hl 4 rfl) ?_
        refine va_get (v := .int (sX5_refusal τ (zCds τ i) (zOps τ i) (g / (4 : Int32)) v)) (C := RX5) (T := TX5) (N := 11) (ci := 5) hx hb hts inX5 hown hK hP 0 rfl rfl 0 (by decide) (hts _ q583) (fun _ h => h) rfl dX5_done_67 ?_
        exact c_if_ne (tgt := 140) hx hb dX5_done_70 (by decide) (fun _ => KJ ls hl) (fun q => absurd q hq)
      refine lv_aload_n hx hb dX5_done_140 rfl (lv_at hl 4 rfl) ?_
      refine va_get (v := .int (sX5_refusal τ (zCds τ i) (zOps τ i) (g / (4 : Int32)) v)) (C := RX5) (T := TX5) (N := 11) (ci := 5) hx hb hts inX5 hown hK hP 0 rfl rfl 0 (by decide) (hts _ q583) (fun _ h => h) rfl dX5_done_141 ?_
      refine c_if_le (tgt := 151) hx hb dX5_done_144 (by decide) (fun q => absurd hq0 q) (fun _ => ?_)
      refine lv_lconst (v := 0) hx hb dX5_done_147 (by decide) ?_
      refine lv_goto (tgt := 152) hx hb dX5_done_148 (by decide) ?_
      refine W.lret hx hb hr (fun t ht hW => ⟨?_, ?_, hS.F ht⟩) hS.2.2 dX5_done_152
      · rw [← hI]; dsimp only; rw [if_pos hq0]
      · rw [← hI, ht]; exact hP
    · rw [if_pos hq] at hI
      obtain ⟨⟨p1, p2, p3, p4, p5, p6, p7, p8, p9, p10⟩, hv2⟩ := hVs i v hin hv hq
      refine lv_aload_n hx hb dX5_done_104 rfl (lv_at hl 4 rfl) ?_
      refine lv_aload_n hx hb dX5_done_105 rfl (lv_at hl 4 rfl) ?_
      refine va_get (v := .ref (ma 7)) (C := RX5) (T := TX5) (N := 11) (ci := 5) hx hb hts inX5 hown hK hP 0 rfl rfl 7 (by decide) (hts _ q590) (fun _ h => h) rfl dX5_done_106 ?_
      refine lv_iload hx hb dX5_done_109 (lv_at hl 0 rfl) ?_
      refine va_iald (f := (zCds τ)) hx hb hK hP 7 0 rfl rfl (vp_in_nI (by omega) (by omega)) dX5_done_111 ?_
      refine p_top (w := .int (zCds τ i)) (by rw [nI_clamp (by omega)]) ?_
      refine lv_aload_n hx hb dX5_done_112 rfl (lv_at hl 4 rfl) ?_
      refine va_get (v := .ref (ma 8)) (C := RX5) (T := TX5) (N := 11) (ci := 5) hx hb hts inX5 hown hK hP 0 rfl rfl 8 (by decide) (hts _ q591) (fun _ h => h) rfl dX5_done_113 ?_
      refine lv_iload hx hb dX5_done_116 (lv_at hl 0 rfl) ?_
      refine va_iald (f := (zOps τ)) hx hb hK hP 8 0 rfl rfl (vp_in_nI (by omega) (by omega)) dX5_done_118 ?_
      refine p_top (w := .int (zOps τ i)) (by rw [nI_clamp (by omega)]) ?_
      refine lv_iload_n hx hb dX5_done_119 rfl (lv_at hl 2 rfl) ?_
      refine lv_lload_n hx hb dX5_done_120 rfl (lv_at hl 1 rfl) ?_
      refine p_V (C := RX5) (rest := []) hx hb hml hown hts (m_X5_does l D A cI cJ ma (sX5_refusal τ (zCds τ i) (zOps τ i) (g / (4 : Int32)) v) τ fr (zCds τ i) (zOps τ i) (g / (4 : Int32)) v p1 p2 p3 p4 p5 p6 p7 p8 p9 p10) q741 q743 q19 q26 q744 rfl nX5_does ⟨Nat.le_of_ble_eq_true rfl, Nat.le_of_ble_eq_true rfl⟩ hl.1 rfl rfl (Nat.le_of_ble_eq_true rfl) dX5_done_121 ⟨Nat.zero_le _, Nat.zero_le _⟩ mPre_bl (va_recv hK hP (ci := 5) (q0 := 0) rfl rfl) (mPre_go hP hK hD) ?_
      refine lv_lstore_n (lv' := [(3, .long (sX5_does τ (zCds τ i) (zOps τ i) (g / (4 : Int32)) v)), (5, .int (nI i)), (2, .int (g / (4 : Int32))), (1, .int g), (0, .ref (ma 0))]) hx hb dX5_done_124 rfl hl (by decide) rfl (fun ls hl => ?_)
      refine lv_goto (tgt := 134) hx hb dX5_done_125 (by decide) ?_
      refine lv_iinc (v := ((nI i) + 1)) (lv' := [(5, .int ((nI i) + 1)), (3, .long (sX5_does τ (zCds τ i) (zOps τ i) (g / (4 : Int32)) v)), (2, .int (g / (4 : Int32))), (1, .int g), (0, .ref (ma 0))]) hx hb dX5_done_134 hl (k := 1) rfl (by first | rfl | decide) (by decide) rfl (fun ls hl => ?_)
      refine lv_goto (tgt := 57) hx hb dX5_done_137 (by decide) ?_
      rw [eK] at hl
      exact ih k _ ls _ _ (by omega) ⟨by omega, hv2, by rw [← hi1]; exact hI⟩ (lv_sub hl [0, 1, 2, 3, 4] rfl) (by rw [hq] at hP; exact hP) hS
set_option maxHeartbeats 4000000 in
set_option maxRecDepth 100000 in
theorem m_X5_doneA (l : Launch) (D : va_G) (A : Nat → Prop) (cI cJ : ClassId) (ma : Nat → Nat) (th : Int32) (σ : St) (fr : va_W) (g : Int32) (h1 : sX5_isBalance g = 0) : IM l yX5_done cX5_done 6 (some .long) 1 [.ref (ma 0), .int g] (mPre D A cI cJ (MW cI cJ ma th σ fr)) D A (some (.long 0)) (MW cI cJ ma 1 (zSetRfs σ (-1 : Int32)) fr) := by
  refine Met.ofW (cc := cX5_done) (maxL := 6) (ret := (some .long)) (by decide) rfl ?_
  intro p e s m args below meth c s₁ B hml hv
  obtain ⟨rfl, hP, hK, hD⟩ := hv
  have hx := B.exec
  have hb := B.bytes
  have hr := B.returns
  have hts : ∀ w ∈ AW, w.before _ s = true := fun w h => atoms_spec (ws := Cond.code yX5_done cX5_done 6 (some .long) :: AW) B.pre w (List.mem_cons_of_mem _ h)
  have hown : s.vm.findClass RX5 = some m.cls := findClass_of_methodNamed B.named
  have hlocks := B.notSynchronized
  have hS : va_S A s.heap s.heap [] := va_S.rf
  have hl := lv_entry ([.ref (ma 0), .int g]) (n := 6) (Nat.le_of_ble_eq_true rfl)
  rw [lg_entry_eq]
  generalize (lg_sl ([.ref (ma 0), .int g]) ++ List.replicate (6 - (lg_sl ([.ref (ma 0), .int g])).length) Slot.unset).toArray = ls at hl ⊢
  have hl : lv_has ls 6 [(0, .ref (ma 0)), (1, .int g)] := hl
  have kn2 : 0 < (1 : Int32) := by decide
  refine lv_aload_n hx hb dX5_done_0 rfl (lv_at hl 0 rfl) ?_
  refine lv_iconst (v := -1) hx hb dX5_done_1 (by decide) ?_
  refine va_put (C := RX5) (T := TX5) (N := 11) (ci := 5) (ty := .int) hx hb hts inX5 tyX5 tyX5_ok nmX5 hown hK hP hD hS 0 rfl rfl 10 (by decide) (hts _ q593) (fun _ h => h) rfl rfl rfl rfl (Nat.le_of_ble_eq_true rfl) dX5_done_2 (fun H locs hP hD hS => ?_)
  have hP : va_P D vwCl (MW cI cJ ma th ((zCnt σ), (zNow σ), (zLst σ), (zGst σ), (zSwg σ), (zTrd σ), (zCds σ), (zOps σ), (zOrd σ), (-1 : Int32)) fr) H := hP
  have hD : va_D A (MW cI cJ ma th ((zCnt σ), (zNow σ), (zLst σ), (zGst σ), (zSwg σ), (zTrd σ), (zCds σ), (zOps σ), (zOrd σ), (-1 : Int32)) fr) := hD
  refine lv_aload_n hx hb dX5_done_5 rfl (lv_at hl 0 rfl) ?_
  refine lv_iload_n hx hb dX5_done_6 rfl (lv_at hl 1 rfl) ?_
  refine p_S (rest := [.ref (ma 0)]) hx hb hml hown hts (m_X5_isBalance l g) q626 q627 q26 q628 nX5_isBalance ⟨Nat.le_of_ble_eq_true rfl, Nat.le_of_ble_eq_true rfl⟩ hl.1 rfl rfl (Nat.le_of_ble_eq_true rfl) dX5_done_7 ⟨Nat.zero_le _, Nat.zero_le _⟩ blind_c (fun _ _ _ => trivial) ?_
  refine c_if_ne (tgt := 17) hx hb dX5_done_10 (by decide) (fun hq => absurd h1 hq) (fun _ => ?_)
  refine lv_iconst (v := 1) hx hb dX5_done_13 (by decide) ?_
  refine lv_goto (tgt := 31) hx hb dX5_done_14 (by decide) ?_
  refine va_put (C := RX5) (T := TX5) (N := 11) (ci := 5) (ty := .int) hx hb hts inX5 tyX5 tyX5_ok nmX5 hown hK hP hD hS 0 rfl rfl 0 (by decide) (hts _ q583) (fun _ h => h) rfl rfl rfl rfl (Nat.le_of_ble_eq_true rfl) dX5_done_31 (fun H locs hP hD hS => ?_)
  have hP : va_P D vwCl (MW cI cJ ma (1 : Int32) ((zCnt σ), (zNow σ), (zLst σ), (zGst σ), (zSwg σ), (zTrd σ), (zCds σ), (zOps σ), (zOrd σ), (-1 : Int32)) fr) H := hP
  have hD : va_D A (MW cI cJ ma (1 : Int32) ((zCnt σ), (zNow σ), (zLst σ), (zGst σ), (zSwg σ), (zTrd σ), (zCds σ), (zOps σ), (zOrd σ), (-1 : Int32)) fr) := hD
  refine lv_aload_n hx hb dX5_done_34 rfl (lv_at hl 0 rfl) ?_
  refine va_get (v := .int (1 : Int32)) (C := RX5) (T := TX5) (N := 11) (ci := 5) hx hb hts inX5 hown hK hP 0 rfl rfl 0 (by decide) (hts _ q583) (fun _ h => h) rfl dX5_done_35 ?_
  refine c_if_le (tgt := 43) hx hb dX5_done_38 (by decide) (fun hq => absurd kn2 hq) (fun _ => ?_)
  refine lv_lconst (v := 0) hx hb dX5_done_41 (by decide) ?_
  exact W.lret hx hb hr (fun t ht hW => ⟨rfl, by rw [ht]; exact hP, hS.F ht⟩) hS.2.2 dX5_done_42
set_option maxHeartbeats 4000000 in
set_option maxRecDepth 100000 in
theorem m_X5_doneB (l : Launch) (D : va_G) (A : Nat → Prop) (cI cJ : ClassId) (ma : Nat → Nat) (th : Int32) (σ : St) (fr : va_W) (g : Int32) (hg : vp_in g 16) (h2 : zCnt σ g.toNatClampNeg = 0) : IM l yX5_done cX5_done 6 (some .long) 1 [.ref (ma 0), .int g] (mPre D A cI cJ (MW cI cJ ma th σ fr)) D A (some (.long 0)) (MW cI cJ ma 2 (zSetRfs σ (-1 : Int32)) fr) := by
  refine Met.ofW (cc := cX5_done) (maxL := 6) (ret := (some .long)) (by decide) rfl ?_
  intro p e s m args below meth c s₁ B hml hv
  obtain ⟨rfl, hP, hK, hD⟩ := hv
  have hx := B.exec
  have hb := B.bytes
  have hr := B.returns
  have hts : ∀ w ∈ AW, w.before _ s = true := fun w h => atoms_spec (ws := Cond.code yX5_done cX5_done 6 (some .long) :: AW) B.pre w (List.mem_cons_of_mem _ h)
  have hown : s.vm.findClass RX5 = some m.cls := findClass_of_methodNamed B.named
  have hlocks := B.notSynchronized
  have hS : va_S A s.heap s.heap [] := va_S.rf
  have hl := lv_entry ([.ref (ma 0), .int g]) (n := 6) (Nat.le_of_ble_eq_true rfl)
  rw [lg_entry_eq]
  generalize (lg_sl ([.ref (ma 0), .int g]) ++ List.replicate (6 - (lg_sl ([.ref (ma 0), .int g])).length) Slot.unset).toArray = ls at hl ⊢
  have hl : lv_has ls 6 [(0, .ref (ma 0)), (1, .int g)] := hl
  have kn0 := nIsB hg
  have kn2 : 0 < (2 : Int32) := by decide
  refine lv_aload_n hx hb dX5_done_0 rfl (lv_at hl 0 rfl) ?_
  refine lv_iconst (v := -1) hx hb dX5_done_1 (by decide) ?_
  refine va_put (C := RX5) (T := TX5) (N := 11) (ci := 5) (ty := .int) hx hb hts inX5 tyX5 tyX5_ok nmX5 hown hK hP hD hS 0 rfl rfl 10 (by decide) (hts _ q593) (fun _ h => h) rfl rfl rfl rfl (Nat.le_of_ble_eq_true rfl) dX5_done_2 (fun H locs hP hD hS => ?_)
  have hP : va_P D vwCl (MW cI cJ ma th ((zCnt σ), (zNow σ), (zLst σ), (zGst σ), (zSwg σ), (zTrd σ), (zCds σ), (zOps σ), (zOrd σ), (-1 : Int32)) fr) H := hP
  have hD : va_D A (MW cI cJ ma th ((zCnt σ), (zNow σ), (zLst σ), (zGst σ), (zSwg σ), (zTrd σ), (zCds σ), (zOps σ), (zOrd σ), (-1 : Int32)) fr) := hD
  refine lv_aload_n hx hb dX5_done_5 rfl (lv_at hl 0 rfl) ?_
  refine lv_iload_n hx hb dX5_done_6 rfl (lv_at hl 1 rfl) ?_
  refine p_S (rest := [.ref (ma 0)]) hx hb hml hown hts (m_X5_isBalance l g) q626 q627 q26 q628 nX5_isBalance ⟨Nat.le_of_ble_eq_true rfl, Nat.le_of_ble_eq_true rfl⟩ hl.1 rfl rfl (Nat.le_of_ble_eq_true rfl) dX5_done_7 ⟨Nat.zero_le _, Nat.zero_le _⟩ blind_c (fun _ _ _ => trivial) ?_
  refine c_if_ne (tgt := 17) hx hb dX5_done_10 (by decide) (fun _ => ?_) (fun hq => absurd hq kn0)
  refine lv_aload_n hx hb dX5_done_17 rfl (lv_at hl 0 rfl) ?_
  refine va_get (v := .ref (ma 1)) (C := RX5) (T := TX5) (N := 11) (ci := 5) hx hb hts inX5 hown hK hP 0 rfl rfl 1 (by decide) (hts _ q584) (fun _ h => h) rfl dX5_done_18 ?_
  refine lv_iload_n hx hb dX5_done_21 rfl (lv_at hl 1 rfl) ?_
  refine va_iald (f := (zCnt σ)) hx hb hK hP 1 0 rfl rfl (hg) dX5_done_22 ?_
  refine c_if_ne (tgt := 30) hx hb dX5_done_23 (by decide) (fun hq => absurd h2 hq) (fun _ => ?_)
  refine lv_iconst (v := 2) hx hb dX5_done_26 (by decide) ?_
  refine lv_goto (tgt := 31) hx hb dX5_done_27 (by decide) ?_
  refine va_put (C := RX5) (T := TX5) (N := 11) (ci := 5) (ty := .int) hx hb hts inX5 tyX5 tyX5_ok nmX5 hown hK hP hD hS 0 rfl rfl 0 (by decide) (hts _ q583) (fun _ h => h) rfl rfl rfl rfl (Nat.le_of_ble_eq_true rfl) dX5_done_31 (fun H locs hP hD hS => ?_)
  have hP : va_P D vwCl (MW cI cJ ma (2 : Int32) ((zCnt σ), (zNow σ), (zLst σ), (zGst σ), (zSwg σ), (zTrd σ), (zCds σ), (zOps σ), (zOrd σ), (-1 : Int32)) fr) H := hP
  have hD : va_D A (MW cI cJ ma (2 : Int32) ((zCnt σ), (zNow σ), (zLst σ), (zGst σ), (zSwg σ), (zTrd σ), (zCds σ), (zOps σ), (zOrd σ), (-1 : Int32)) fr) := hD
  refine lv_aload_n hx hb dX5_done_34 rfl (lv_at hl 0 rfl) ?_
  refine va_get (v := .int (2 : Int32)) (C := RX5) (T := TX5) (N := 11) (ci := 5) hx hb hts inX5 hown hK hP 0 rfl rfl 0 (by decide) (hts _ q583) (fun _ h => h) rfl dX5_done_35 ?_
  refine c_if_le (tgt := 43) hx hb dX5_done_38 (by decide) (fun hq => absurd kn2 hq) (fun _ => ?_)
  refine lv_lconst (v := 0) hx hb dX5_done_41 (by decide) ?_
  exact W.lret hx hb hr (fun t ht hW => ⟨rfl, by rw [ht]; exact hP, hS.F ht⟩) hS.2.2 dX5_done_42
