def sX0_take (k : Nat) (cc0 : Int32) (n : Int64) (l0 : Int64) (h : Int64) (w : Int64) (t : Int64) (v : Int64) : Int32 := if cc0 = 0 then (cc0 + (1 : Int32)) else (cc0 + (1 : Int32))
def rX0_take_c (k : Nat) (cc0 : Int32) (n : Int64) (l0 : Int64) (h : Int64) (w : Int64) (t : Int64) (v : Int64) : Int32 := if cc0 = 0 then (cc0 + (1 : Int32)) else (cc0 + (1 : Int32))
def rX0_take_n (k : Nat) (cc0 : Int32) (n : Int64) (l0 : Int64) (h : Int64) (w : Int64) (t : Int64) (v : Int64) : Int64 := if cc0 = 0 then v else v
def rX0_take_l (k : Nat) (cc0 : Int32) (n : Int64) (l0 : Int64) (h : Int64) (w : Int64) (t : Int64) (v : Int64) : Int64 := if cc0 = 0 then v else (so_lesser k l0 v)
def rX0_take_h (k : Nat) (cc0 : Int32) (n : Int64) (l0 : Int64) (h : Int64) (w : Int64) (t : Int64) (v : Int64) : Int64 := if cc0 = 0 then v else (so_greater k h v)
def rX0_take_w (k : Nat) (cc0 : Int32) (n : Int64) (l0 : Int64) (h : Int64) (w : Int64) (t : Int64) (v : Int64) : Int64 := if cc0 = 0 then w else (so_greater k w (so_size k (so_change k n v)))
def rX0_take_t (k : Nat) (cc0 : Int32) (n : Int64) (l0 : Int64) (h : Int64) (w : Int64) (t : Int64) (v : Int64) : Int64 := if cc0 = 0 then t else (so_sign k (so_change k n v))
theorem nX0_take : yX0_take.cls ≠ "java/lang/invoke/MethodHandle" ∧ yX0_take.cls ≠ "java/lang/invoke/VarHandle" ∧ (parseMethodDescriptor yX0_take.desc).map (fun d => d.parameters.length) = some 1 := by decide +kernel
set_option maxHeartbeats 4000000 in
set_option maxRecDepth 100000 in
theorem m_X0_take (l : Launch) (D : va_G) (b0 s0 k : Nat) (cc0 : Int32) (n l0 h w t : Int64) (v : Int64) : IM l yX0_take cX0_take 5 (some .int) 6 [.ref b0, .long v] (bPre D b0 s0 k cc0 n l0 h w t) D (fun q => q = b0) (some (.int (sX0_take k cc0 n l0 h w t v))) (balW b0 s0 (rX0_take_c k cc0 n l0 h w t v) (rX0_take_n k cc0 n l0 h w t v) (rX0_take_l k cc0 n l0 h w t v) (rX0_take_h k cc0 n l0 h w t v) (rX0_take_w k cc0 n l0 h w t v) (rX0_take_t k cc0 n l0 h w t v)) := by
  refine Met.ofW (cc := cX0_take) (maxL := 5) (ret := (some .int)) (by decide) rfl ?_
  intro p e s m args below meth c s₁ B hml hv
  obtain ⟨rfl, hP, hK, hA, hPs, hne, hk⟩ := hv
  have hx := B.exec
  have hb := B.bytes
  have hr := B.returns
  have hts : ∀ w ∈ AW, w.before _ s = true := fun w h => atoms_spec (ws := Cond.code yX0_take cX0_take 5 (some .int) :: AW) B.pre w (List.mem_cons_of_mem _ h)
  have hown : s.vm.findClass RX0 = some m.cls := findClass_of_methodNamed B.named
  have hlocks := B.notSynchronized
  have hS : va_S (fun q => q = b0) s.heap s.heap [] := va_S.rf
  have hD : va_D (fun q => q = b0) (balW b0 s0 cc0 n l0 h w t) := bal_D
  have hl := lv_entry ([.ref b0, .long v]) (n := 5) (Nat.le_of_ble_eq_true rfl)
  rw [lg_entry_eq]
  generalize (lg_sl ([.ref b0, .long v]) ++ List.replicate (5 - (lg_sl ([.ref b0, .long v])).length) Slot.unset).toArray = ls at hl ⊢
  have hl : lv_has ls 5 [(0, .ref b0), (1, .long v)] := hl
  refine lv_aload_n hx hb dX0_take_0 rfl (lv_at hl 0 rfl) ?_
  refine va_get (v := .int cc0) (C := RX0) (T := TX0) (N := 7) (ci := 1) hx hb hts inX0 hown hK hP 0 rfl rfl 1 (by decide) (hts _ q100) (fun _ h => h) rfl dX0_take_1 ?_
  refine c_if_ne (tgt := 20) hx hb dX0_take_4 (by decide) (fun h1 => ?_) (fun h1 => ?_)
  · skip
    refine lv_aload_n hx hb dX0_take_20 rfl (lv_at hl 0 rfl) ?_
    refine va_get (v := .ref s0) (C := RX0) (T := TX0) (N := 7) (ci := 1) hx hb hts inX0 hown hK hP 0 rfl rfl 0 (by decide) (hts _ q98) (fun _ h => h) rfl dX0_take_21 ?_
    refine lv_aload_n hx hb dX0_take_24 rfl (lv_at hl 0 rfl) ?_
    refine va_get (v := .long n) (C := RX0) (T := TX0) (N := 7) (ci := 1) hx hb hts inX0 hown hK hP 0 rfl rfl 2 (by decide) (hts _ q102) (fun _ h => h) rfl dX0_take_25 ?_
    refine lv_lload_n hx hb dX0_take_28 rfl (lv_at hl 1 rfl) ?_
    refine u_change (k := k) (rest := []) hx hb hml hown hts hA hK hk (so_keep hPs hne hS) q255 ⟨Nat.le_of_ble_eq_true rfl, Nat.le_of_ble_eq_true rfl⟩ ⟨Nat.zero_le _, Nat.zero_le _⟩ hl.1 (Nat.le_of_ble_eq_true rfl) dX0_take_29 ?_
    refine lv_lstore_n (lv' := [(3, .long (so_change k n v)), (0, .ref b0), (1, .long v)]) hx hb dX0_take_32 rfl hl (by decide) rfl (fun ls hl => ?_)
    refine lv_aload_n hx hb dX0_take_33 rfl (lv_at hl 1 rfl) ?_
    refine lv_aload_n hx hb dX0_take_34 rfl (lv_at hl 1 rfl) ?_
    refine va_get (v := .ref s0) (C := RX0) (T := TX0) (N := 7) (ci := 1) hx hb hts inX0 hown hK hP 0 rfl rfl 0 (by decide) (hts _ q98) (fun _ h => h) rfl dX0_take_35 ?_
    refine lv_lload_n hx hb dX0_take_38 rfl (lv_at hl 0 rfl) ?_
    refine u_sign (k := k) (rest := [.ref b0]) hx hb hml hown hts hA hK hk (so_keep hPs hne hS) q301 ⟨Nat.le_of_ble_eq_true rfl, Nat.le_of_ble_eq_true rfl⟩ ⟨Nat.zero_le _, Nat.zero_le _⟩ hl.1 (Nat.le_of_ble_eq_true rfl) dX0_take_39 ?_
    refine va_put (C := RX0) (T := TX0) (N := 7) (ci := 1) (ty := .long) hx hb hts inX0 tyX0 tyX0_ok nmX0 hown hK hP hD hS 0 rfl rfl 6 (by decide) (hts _ q110) (fun _ h => h) rfl rfl rfl rfl (Nat.le_of_ble_eq_true rfl) dX0_take_42 (fun H locs hP hD hS => ?_)
    have hP : va_P D vwCl (balW b0 s0 cc0 n l0 h w (so_sign k (so_change k n v))) H := hP
    have hD : va_D (fun q => q = b0) (balW b0 s0 cc0 n l0 h w (so_sign k (so_change k n v))) := hD
    refine lv_aload_n hx hb dX0_take_45 rfl (lv_at hl 1 rfl) ?_
    refine lv_aload_n hx hb dX0_take_46 rfl (lv_at hl 1 rfl) ?_
    refine va_get (v := .ref s0) (C := RX0) (T := TX0) (N := 7) (ci := 1) hx hb hts inX0 hown hK hP 0 rfl rfl 0 (by decide) (hts _ q98) (fun _ h => h) rfl dX0_take_47 ?_
    refine lv_aload_n hx hb dX0_take_50 rfl (lv_at hl 1 rfl) ?_
    refine va_get (v := .long w) (C := RX0) (T := TX0) (N := 7) (ci := 1) hx hb hts inX0 hown hK hP 0 rfl rfl 5 (by decide) (hts _ q108) (fun _ h => h) rfl dX0_take_51 ?_
    refine lv_aload_n hx hb dX0_take_54 rfl (lv_at hl 1 rfl) ?_
    refine va_get (v := .ref s0) (C := RX0) (T := TX0) (N := 7) (ci := 1) hx hb hts inX0 hown hK hP 0 rfl rfl 0 (by decide) (hts _ q98) (fun _ h => h) rfl dX0_take_55 ?_
    refine lv_lload_n hx hb dX0_take_58 rfl (lv_at hl 0 rfl) ?_
    refine u_size (k := k) (rest := [.long w, .ref s0, .ref b0]) hx hb hml hown hts hA hK hk (so_keep hPs hne hS) q311 ⟨Nat.le_of_ble_eq_true rfl, Nat.le_of_ble_eq_true rfl⟩ ⟨Nat.zero_le _, Nat.zero_le _⟩ hl.1 (Nat.le_of_ble_eq_true rfl) dX0_take_59 ?_
    refine u_greater (k := k) (rest := [.ref b0]) hx hb hml hown hts hA hK hk (so_keep hPs hne hS) q322 ⟨Nat.le_of_ble_eq_true rfl, Nat.le_of_ble_eq_true rfl⟩ ⟨Nat.zero_le _, Nat.zero_le _⟩ hl.1 (Nat.le_of_ble_eq_true rfl) dX0_take_62 ?_
    refine va_put (C := RX0) (T := TX0) (N := 7) (ci := 1) (ty := .long) hx hb hts inX0 tyX0 tyX0_ok nmX0 hown hK hP hD hS 0 rfl rfl 5 (by decide) (hts _ q108) (fun _ h => h) rfl rfl rfl rfl (Nat.le_of_ble_eq_true rfl) dX0_take_65 (fun H locs hP hD hS => ?_)
    have hP : va_P D vwCl (balW b0 s0 cc0 n l0 h (so_greater k w (so_size k (so_change k n v))) (so_sign k (so_change k n v))) H := hP
    have hD : va_D (fun q => q = b0) (balW b0 s0 cc0 n l0 h (so_greater k w (so_size k (so_change k n v))) (so_sign k (so_change k n v))) := hD
    refine lv_aload_n hx hb dX0_take_68 rfl (lv_at hl 1 rfl) ?_
    refine lv_aload_n hx hb dX0_take_69 rfl (lv_at hl 1 rfl) ?_
    refine va_get (v := .ref s0) (C := RX0) (T := TX0) (N := 7) (ci := 1) hx hb hts inX0 hown hK hP 0 rfl rfl 0 (by decide) (hts _ q98) (fun _ h => h) rfl dX0_take_70 ?_
    refine lv_aload_n hx hb dX0_take_73 rfl (lv_at hl 1 rfl) ?_
    refine va_get (v := .long l0) (C := RX0) (T := TX0) (N := 7) (ci := 1) hx hb hts inX0 hown hK hP 0 rfl rfl 3 (by decide) (hts _ q104) (fun _ h => h) rfl dX0_take_74 ?_
    refine lv_lload_n hx hb dX0_take_77 rfl (lv_at hl 2 rfl) ?_
    refine u_lesser (k := k) (rest := [.ref b0]) hx hb hml hown hts hA hK hk (so_keep hPs hne hS) q337 ⟨Nat.le_of_ble_eq_true rfl, Nat.le_of_ble_eq_true rfl⟩ ⟨Nat.zero_le _, Nat.zero_le _⟩ hl.1 (Nat.le_of_ble_eq_true rfl) dX0_take_78 ?_
    refine va_put (C := RX0) (T := TX0) (N := 7) (ci := 1) (ty := .long) hx hb hts inX0 tyX0 tyX0_ok nmX0 hown hK hP hD hS 0 rfl rfl 3 (by decide) (hts _ q104) (fun _ h => h) rfl rfl rfl rfl (Nat.le_of_ble_eq_true rfl) dX0_take_81 (fun H locs hP hD hS => ?_)
    have hP : va_P D vwCl (balW b0 s0 cc0 n (so_lesser k l0 v) h (so_greater k w (so_size k (so_change k n v))) (so_sign k (so_change k n v))) H := hP
    have hD : va_D (fun q => q = b0) (balW b0 s0 cc0 n (so_lesser k l0 v) h (so_greater k w (so_size k (so_change k n v))) (so_sign k (so_change k n v))) := hD
    refine lv_aload_n hx hb dX0_take_84 rfl (lv_at hl 1 rfl) ?_
    refine lv_aload_n hx hb dX0_take_85 rfl (lv_at hl 1 rfl) ?_
    refine va_get (v := .ref s0) (C := RX0) (T := TX0) (N := 7) (ci := 1) hx hb hts inX0 hown hK hP 0 rfl rfl 0 (by decide) (hts _ q98) (fun _ h => h) rfl dX0_take_86 ?_
    refine lv_aload_n hx hb dX0_take_89 rfl (lv_at hl 1 rfl) ?_
    refine va_get (v := .long h) (C := RX0) (T := TX0) (N := 7) (ci := 1) hx hb hts inX0 hown hK hP 0 rfl rfl 4 (by decide) (hts _ q106) (fun _ h => h) rfl dX0_take_90 ?_
    refine lv_lload_n hx hb dX0_take_93 rfl (lv_at hl 2 rfl) ?_
    refine u_greater (k := k) (rest := [.ref b0]) hx hb hml hown hts hA hK hk (so_keep hPs hne hS) q322 ⟨Nat.le_of_ble_eq_true rfl, Nat.le_of_ble_eq_true rfl⟩ ⟨Nat.zero_le _, Nat.zero_le _⟩ hl.1 (Nat.le_of_ble_eq_true rfl) dX0_take_94 ?_
    refine va_put (C := RX0) (T := TX0) (N := 7) (ci := 1) (ty := .long) hx hb hts inX0 tyX0 tyX0_ok nmX0 hown hK hP hD hS 0 rfl rfl 4 (by decide) (hts _ q106) (fun _ h => h) rfl rfl rfl rfl (Nat.le_of_ble_eq_true rfl) dX0_take_97 (fun H locs hP hD hS => ?_)
    have hP : va_P D vwCl (balW b0 s0 cc0 n (so_lesser k l0 v) (so_greater k h v) (so_greater k w (so_size k (so_change k n v))) (so_sign k (so_change k n v))) H := hP
    have hD : va_D (fun q => q = b0) (balW b0 s0 cc0 n (so_lesser k l0 v) (so_greater k h v) (so_greater k w (so_size k (so_change k n v))) (so_sign k (so_change k n v))) := hD
    refine lv_aload_n hx hb dX0_take_100 rfl (lv_at hl 1 rfl) ?_
    refine lv_lload_n hx hb dX0_take_101 rfl (lv_at hl 2 rfl) ?_
    refine va_put (C := RX0) (T := TX0) (N := 7) (ci := 1) (ty := .long) hx hb hts inX0 tyX0 tyX0_ok nmX0 hown hK hP hD hS 0 rfl rfl 2 (by decide) (hts _ q102) (fun _ h => h) rfl rfl rfl rfl (Nat.le_of_ble_eq_true rfl) dX0_take_102 (fun H locs hP hD hS => ?_)
    have hP : va_P D vwCl (balW b0 s0 cc0 v (so_lesser k l0 v) (so_greater k h v) (so_greater k w (so_size k (so_change k n v))) (so_sign k (so_change k n v))) H := hP
    have hD : va_D (fun q => q = b0) (balW b0 s0 cc0 v (so_lesser k l0 v) (so_greater k h v) (so_greater k w (so_size k (so_change k n v))) (so_sign k (so_change k n v))) := hD
    refine lv_aload_n hx hb dX0_take_105 rfl (lv_at hl 1 rfl) ?_
    refine lv_dup hx hb dX0_take_106 rfl ?_
    refine va_get (v := .int cc0) (C := RX0) (T := TX0) (N := 7) (ci := 1) hx hb hts inX0 hown hK hP 0 rfl rfl 1 (by decide) (hts _ q100) (fun _ h => h) rfl dX0_take_107 ?_
    refine lv_iconst (v := 1) hx hb dX0_take_110 (by decide) ?_
    refine lv_iadd hx hb dX0_take_111 ?_
    refine va_put (C := RX0) (T := TX0) (N := 7) (ci := 1) (ty := .int) hx hb hts inX0 tyX0 tyX0_ok nmX0 hown hK hP hD hS 0 rfl rfl 1 (by decide) (hts _ q100) (fun _ h => h) rfl rfl rfl rfl (Nat.le_of_ble_eq_true rfl) dX0_take_112 (fun H locs hP hD hS => ?_)
    have hP : va_P D vwCl (balW b0 s0 (cc0 + (1 : Int32)) v (so_lesser k l0 v) (so_greater k h v) (so_greater k w (so_size k (so_change k n v))) (so_sign k (so_change k n v))) H := hP
    have hD : va_D (fun q => q = b0) (balW b0 s0 (cc0 + (1 : Int32)) v (so_lesser k l0 v) (so_greater k h v) (so_greater k w (so_size k (so_change k n v))) (so_sign k (so_change k n v))) := hD
    refine lv_aload_n hx hb dX0_take_115 rfl (lv_at hl 1 rfl) ?_
    refine va_get (v := .int (cc0 + (1 : Int32))) (C := RX0) (T := TX0) (N := 7) (ci := 1) hx hb hts inX0 hown hK hP 0 rfl rfl 1 (by decide) (hts _ q100) (fun _ h => h) rfl dX0_take_116 ?_
    exact W.iret hx hb hr (fun t ht hW => ⟨congrArg (fun z => Outcome.returned (some (Value.int z))) (by rw [sX0_take, if_neg h1]), (by unfold rX0_take_c rX0_take_n rX0_take_l rX0_take_h rX0_take_w rX0_take_t; simp only [if_neg h1]; rw [ht]; exact hP), hS.F ht⟩) hS.2.2 dX0_take_119
  · skip
    refine lv_aload_n hx hb dX0_take_7 rfl (lv_at hl 0 rfl) ?_
    refine lv_lload_n hx hb dX0_take_8 rfl (lv_at hl 1 rfl) ?_
    refine va_put (C := RX0) (T := TX0) (N := 7) (ci := 1) (ty := .long) hx hb hts inX0 tyX0 tyX0_ok nmX0 hown hK hP hD hS 0 rfl rfl 3 (by decide) (hts _ q104) (fun _ h => h) rfl rfl rfl rfl (Nat.le_of_ble_eq_true rfl) dX0_take_9 (fun H locs hP hD hS => ?_)
    have hP : va_P D vwCl (balW b0 s0 cc0 n v h w t) H := hP
    have hD : va_D (fun q => q = b0) (balW b0 s0 cc0 n v h w t) := hD
    refine lv_aload_n hx hb dX0_take_12 rfl (lv_at hl 0 rfl) ?_
    refine lv_lload_n hx hb dX0_take_13 rfl (lv_at hl 1 rfl) ?_
    refine va_put (C := RX0) (T := TX0) (N := 7) (ci := 1) (ty := .long) hx hb hts inX0 tyX0 tyX0_ok nmX0 hown hK hP hD hS 0 rfl rfl 4 (by decide) (hts _ q106) (fun _ h => h) rfl rfl rfl rfl (Nat.le_of_ble_eq_true rfl) dX0_take_14 (fun H locs hP hD hS => ?_)
    have hP : va_P D vwCl (balW b0 s0 cc0 n v v w t) H := hP
    have hD : va_D (fun q => q = b0) (balW b0 s0 cc0 n v v w t) := hD
    refine lv_goto (tgt := 100) hx hb dX0_take_17 (by decide) ?_
    refine lv_aload_n hx hb dX0_take_100 rfl (lv_at hl 0 rfl) ?_
    refine lv_lload_n hx hb dX0_take_101 rfl (lv_at hl 1 rfl) ?_
    refine va_put (C := RX0) (T := TX0) (N := 7) (ci := 1) (ty := .long) hx hb hts inX0 tyX0 tyX0_ok nmX0 hown hK hP hD hS 0 rfl rfl 2 (by decide) (hts _ q102) (fun _ h => h) rfl rfl rfl rfl (Nat.le_of_ble_eq_true rfl) dX0_take_102 (fun H locs hP hD hS => ?_)
    have hP : va_P D vwCl (balW b0 s0 cc0 v v v w t) H := hP
    have hD : va_D (fun q => q = b0) (balW b0 s0 cc0 v v v w t) := hD
    refine lv_aload_n hx hb dX0_take_105 rfl (lv_at hl 0 rfl) ?_
    refine lv_dup hx hb dX0_take_106 rfl ?_
    refine va_get (v := .int cc0) (C := RX0) (T := TX0) (N := 7) (ci := 1) hx hb hts inX0 hown hK hP 0 rfl rfl 1 (by decide) (hts _ q100) (fun _ h => h) rfl dX0_take_107 ?_
    refine lv_iconst (v := 1) hx hb dX0_take_110 (by decide) ?_
    refine lv_iadd hx hb dX0_take_111 ?_
    refine va_put (C := RX0) (T := TX0) (N := 7) (ci := 1) (ty := .int) hx hb hts inX0 tyX0 tyX0_ok nmX0 hown hK hP hD hS 0 rfl rfl 1 (by decide) (hts _ q100) (fun _ h => h) rfl rfl rfl rfl (Nat.le_of_ble_eq_true rfl) dX0_take_112 (fun H locs hP hD hS => ?_)
    have hP : va_P D vwCl (balW b0 s0 (cc0 + (1 : Int32)) v v v w t) H := hP
    have hD : va_D (fun q => q = b0) (balW b0 s0 (cc0 + (1 : Int32)) v v v w t) := hD
    refine lv_aload_n hx hb dX0_take_115 rfl (lv_at hl 0 rfl) ?_
    refine va_get (v := .int (cc0 + (1 : Int32))) (C := RX0) (T := TX0) (N := 7) (ci := 1) hx hb hts inX0 hown hK hP 0 rfl rfl 1 (by decide) (hts _ q100) (fun _ h => h) rfl dX0_take_116 ?_
    exact W.iret hx hb hr (fun t ht hW => ⟨congrArg (fun z => Outcome.returned (some (Value.int z))) (by rw [sX0_take, if_pos h1]), (by unfold rX0_take_c rX0_take_n rX0_take_l rX0_take_h rX0_take_w rX0_take_t; simp only [if_pos h1]; rw [ht]; exact hP), hS.F ht⟩) hS.2.2 dX0_take_119
def rX0_clear_c (k : Nat) (cc0 : Int32) (n : Int64) (l0 : Int64) (h : Int64) (w : Int64) (t : Int64) : Int32 := (0 : Int32)
def rX0_clear_n (k : Nat) (cc0 : Int32) (n : Int64) (l0 : Int64) (h : Int64) (w : Int64) (t : Int64) : Int64 := (0 : Int64)
def rX0_clear_l (k : Nat) (cc0 : Int32) (n : Int64) (l0 : Int64) (h : Int64) (w : Int64) (t : Int64) : Int64 := (0 : Int64)
def rX0_clear_h (k : Nat) (cc0 : Int32) (n : Int64) (l0 : Int64) (h : Int64) (w : Int64) (t : Int64) : Int64 := (0 : Int64)
def rX0_clear_w (k : Nat) (cc0 : Int32) (n : Int64) (l0 : Int64) (h : Int64) (w : Int64) (t : Int64) : Int64 := (0 : Int64)
def rX0_clear_t (k : Nat) (cc0 : Int32) (n : Int64) (l0 : Int64) (h : Int64) (w : Int64) (t : Int64) : Int64 := (0 : Int64)
theorem nX0_clear : yX0_clear.cls ≠ "java/lang/invoke/MethodHandle" ∧ yX0_clear.cls ≠ "java/lang/invoke/VarHandle" ∧ (parseMethodDescriptor yX0_clear.desc).map (fun d => d.parameters.length) = some 0 := by decide +kernel
set_option maxHeartbeats 4000000 in
set_option maxRecDepth 100000 in
theorem m_X0_clear (l : Launch) (D : va_G) (b0 s0 k : Nat) (cc0 : Int32) (n l0 h w t : Int64) : IM l yX0_clear cX0_clear 1 none 0 [.ref b0] (bPre D b0 s0 k cc0 n l0 h w t) D (fun q => q = b0) none (balW b0 s0 (rX0_clear_c k cc0 n l0 h w t) (rX0_clear_n k cc0 n l0 h w t) (rX0_clear_l k cc0 n l0 h w t) (rX0_clear_h k cc0 n l0 h w t) (rX0_clear_w k cc0 n l0 h w t) (rX0_clear_t k cc0 n l0 h w t)) := by
  refine Met.ofW (cc := cX0_clear) (maxL := 1) (ret := none) (by decide) rfl ?_
  intro p e s m args below meth c s₁ B hml hv
  obtain ⟨rfl, hP, hK, hA, hPs, hne, hk⟩ := hv
  have hx := B.exec
  have hb := B.bytes
  have hr := B.returns
  have hts : ∀ w ∈ AW, w.before _ s = true := fun w h => atoms_spec (ws := Cond.code yX0_clear cX0_clear 1 none :: AW) B.pre w (List.mem_cons_of_mem _ h)
  have hown : s.vm.findClass RX0 = some m.cls := findClass_of_methodNamed B.named
  have hlocks := B.notSynchronized
  have hS : va_S (fun q => q = b0) s.heap s.heap [] := va_S.rf
  have hD : va_D (fun q => q = b0) (balW b0 s0 cc0 n l0 h w t) := bal_D
  have hl := lv_entry ([.ref b0]) (n := 1) (Nat.le_of_ble_eq_true rfl)
  rw [lg_entry_eq]
  generalize (lg_sl ([.ref b0]) ++ List.replicate (1 - (lg_sl ([.ref b0])).length) Slot.unset).toArray = ls at hl ⊢
  have hl : lv_has ls 1 [(0, .ref b0)] := hl
  refine lv_aload_n hx hb dX0_clear_0 rfl (lv_at hl 0 rfl) ?_
  refine lv_iconst (v := 0) hx hb dX0_clear_1 (by decide) ?_
  refine va_put (C := RX0) (T := TX0) (N := 7) (ci := 1) (ty := .int) hx hb hts inX0 tyX0 tyX0_ok nmX0 hown hK hP hD hS 0 rfl rfl 1 (by decide) (hts _ q100) (fun _ h => h) rfl rfl rfl rfl (Nat.le_of_ble_eq_true rfl) dX0_clear_2 (fun H locs hP hD hS => ?_)
  have hP : va_P D vwCl (balW b0 s0 (0 : Int32) n l0 h w t) H := hP
  have hD : va_D (fun q => q = b0) (balW b0 s0 (0 : Int32) n l0 h w t) := hD
  refine lv_aload_n hx hb dX0_clear_5 rfl (lv_at hl 0 rfl) ?_
  refine lv_lconst (v := 0) hx hb dX0_clear_6 (by decide) ?_
  refine va_put (C := RX0) (T := TX0) (N := 7) (ci := 1) (ty := .long) hx hb hts inX0 tyX0 tyX0_ok nmX0 hown hK hP hD hS 0 rfl rfl 2 (by decide) (hts _ q102) (fun _ h => h) rfl rfl rfl rfl (Nat.le_of_ble_eq_true rfl) dX0_clear_7 (fun H locs hP hD hS => ?_)
  have hP : va_P D vwCl (balW b0 s0 (0 : Int32) (0 : Int64) l0 h w t) H := hP
  have hD : va_D (fun q => q = b0) (balW b0 s0 (0 : Int32) (0 : Int64) l0 h w t) := hD
  refine lv_aload_n hx hb dX0_clear_10 rfl (lv_at hl 0 rfl) ?_
  refine lv_lconst (v := 0) hx hb dX0_clear_11 (by decide) ?_
  refine va_put (C := RX0) (T := TX0) (N := 7) (ci := 1) (ty := .long) hx hb hts inX0 tyX0 tyX0_ok nmX0 hown hK hP hD hS 0 rfl rfl 3 (by decide) (hts _ q104) (fun _ h => h) rfl rfl rfl rfl (Nat.le_of_ble_eq_true rfl) dX0_clear_12 (fun H locs hP hD hS => ?_)
  have hP : va_P D vwCl (balW b0 s0 (0 : Int32) (0 : Int64) (0 : Int64) h w t) H := hP
  have hD : va_D (fun q => q = b0) (balW b0 s0 (0 : Int32) (0 : Int64) (0 : Int64) h w t) := hD
  refine lv_aload_n hx hb dX0_clear_15 rfl (lv_at hl 0 rfl) ?_
  refine lv_lconst (v := 0) hx hb dX0_clear_16 (by decide) ?_
  refine va_put (C := RX0) (T := TX0) (N := 7) (ci := 1) (ty := .long) hx hb hts inX0 tyX0 tyX0_ok nmX0 hown hK hP hD hS 0 rfl rfl 4 (by decide) (hts _ q106) (fun _ h => h) rfl rfl rfl rfl (Nat.le_of_ble_eq_true rfl) dX0_clear_17 (fun H locs hP hD hS => ?_)
  have hP : va_P D vwCl (balW b0 s0 (0 : Int32) (0 : Int64) (0 : Int64) (0 : Int64) w t) H := hP
  have hD : va_D (fun q => q = b0) (balW b0 s0 (0 : Int32) (0 : Int64) (0 : Int64) (0 : Int64) w t) := hD
  refine lv_aload_n hx hb dX0_clear_20 rfl (lv_at hl 0 rfl) ?_
  refine lv_lconst (v := 0) hx hb dX0_clear_21 (by decide) ?_
  refine va_put (C := RX0) (T := TX0) (N := 7) (ci := 1) (ty := .long) hx hb hts inX0 tyX0 tyX0_ok nmX0 hown hK hP hD hS 0 rfl rfl 5 (by decide) (hts _ q108) (fun _ h => h) rfl rfl rfl rfl (Nat.le_of_ble_eq_true rfl) dX0_clear_22 (fun H locs hP hD hS => ?_)
  have hP : va_P D vwCl (balW b0 s0 (0 : Int32) (0 : Int64) (0 : Int64) (0 : Int64) (0 : Int64) t) H := hP
  have hD : va_D (fun q => q = b0) (balW b0 s0 (0 : Int32) (0 : Int64) (0 : Int64) (0 : Int64) (0 : Int64) t) := hD
  refine lv_aload_n hx hb dX0_clear_25 rfl (lv_at hl 0 rfl) ?_
  refine lv_lconst (v := 0) hx hb dX0_clear_26 (by decide) ?_
  refine va_put (C := RX0) (T := TX0) (N := 7) (ci := 1) (ty := .long) hx hb hts inX0 tyX0 tyX0_ok nmX0 hown hK hP hD hS 0 rfl rfl 6 (by decide) (hts _ q110) (fun _ h => h) rfl rfl rfl rfl (Nat.le_of_ble_eq_true rfl) dX0_clear_27 (fun H locs hP hD hS => ?_)
  have hP : va_P D vwCl (balW b0 s0 (0 : Int32) (0 : Int64) (0 : Int64) (0 : Int64) (0 : Int64) (0 : Int64)) H := hP
  have hD : va_D (fun q => q = b0) (balW b0 s0 (0 : Int32) (0 : Int64) (0 : Int64) (0 : Int64) (0 : Int64) (0 : Int64)) := hD
  exact W.vret hx hb hr (fun t ht hW => ⟨rfl, (by rw [ht]; exact hP), hS.F ht⟩) hS.2.2 dX0_clear_30
