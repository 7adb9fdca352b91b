/-! The law's loop. -/
set_option maxHeartbeats 4000000 in
set_option maxRecDepth 100000 in
theorem law_loop {p : Program} {l : Launch} {e : Env} {s : State} {m : MethodId} {below : List Frame} {meth : Method} {c : Code} {b L : Nat} {xs : Nat → Int32} {D : va_G} {A : Nat → Prop} {cI cB cJ cI2 cJ2 : ClassId} (F : LF p s m meth c b L xs D A cI cB cJ cI2 cJ2) (hst : l.stackTraces = false) {ra ma : Nat → Nat} {oa : Nat} {Q : State → Prop}
    (fin : ∀ (H : Heap) (locs : List Loc) (ls : Array Slot) (cells slots : Nat), cells ≤ 636824 → slots ≤ 7003361 → va_S A s.heap H locs → W p l e room_1 s m #[Value.ref b] below meth c H locs cells slots Q (F0 m 677 ls [])) :
    ∀ (n j : Nat) (σ : St) (o : Nat → Int64) (th : Int32) (H : Heap) (locs : List Loc) (ls : Array Slot), 4 * j ≤ L → L + 1 ≤ 4 * j + 4 * n → Inv σ j → va_P D vwCl (BW cI cB cJ cI2 cJ2 ra ma oa o th σ σ) H → va_D A (BW cI cB cJ cI2 cJ2 ra ma oa o th σ σ) → va_S A s.heap H locs → lv_has ls 8 (lvL b ra ma oa (4 * j)) → W p l e room_1 s m #[Value.ref b] below meth c H locs (40 + j) (400 + 6 * j) Q (F0 m 23 ls []) := by
  have FF := F
  obtain ⟨hx, hb, hr, hml, hown, hts, hX, hbl, hbA, hlocks, hKL, hKM, hA, hN, hT, hNX, hL, -⟩ := F
  intro n
  induction n with
  | zero => intro j σ o th H locs ls h1 h2; exact absurd h2 (by omega)
  | succ n ih =>
    intro j σ o th H locs ls hj hn hI hP hD hS hl
    refine lv_iload hx hb dL_law_23 (lv_at hl 4 rfl) ?_
    refine lv_aload_n hx hb dL_law_25 rfl (lv_at hl 0 rfl) ?_
    refine va_slen hx hb hX hbl hbA hS dL_law_26 ?_
    refine lv_iconst (v := 4) hx hb dL_law_27 (by decide) ?_
    refine lv_isub hx hb dL_law_28 ?_
    refine c_icmp_gt (tgt := 677) hx hb dL_law_29 (by decide) (fun _ => fin H locs ls _ _ (by omega) (by omega) hS) (fun hc => ?_)
    have hi : 4 * j + 4 ≤ L := by rw [loop_cond hL (by omega)] at hc; omega
    have hC : 40 + j + 1 ≤ room_1.cells ∧ 400 + 6 * j + 6 ≤ room_1.slots := ⟨show 40 + j + 1 ≤ 636824 by omega, show 400 + 6 * j + 6 ≤ 7003361 by omega⟩
    have hj2 : j ≤ 4096 := by omega
    have nxt : ∀ (H : Heap) (locs : List Loc) (o : Nat → Int64) (σ : St) (th : Int32) (ls : Array Slot), Inv σ (j + 1) → va_P D vwCl (BW cI cB cJ cI2 cJ2 ra ma oa o th σ σ) H → va_D A (BW cI cB cJ cI2 cJ2 ra ma oa o th σ σ) → va_S A s.heap H locs → lv_has ls 8 (lvL b ra ma oa (4 * j)) → W p l e room_1 s m #[Value.ref b] below meth c H locs (40 + j + 1) (400 + 6 * j + 6) Q (F0 m 671 ls []) := fun H locs o σ th ls hI hP hD hS hl => by
      refine lv_iinc (v := nI (4 * (j + 1))) (lv' := [(4, .int (nI (4 * (j + 1)))), (0, .ref b), (1, .ref (ra 0)), (2, .ref (ma 0)), (3, .ref oa)]) hx hb dL_law_671 hl (k := 4) rfl (by rw [show Int32.ofInt 4 = nI 4 from rfl, nI_add, show 4 * j + 4 = 4 * (j + 1) by omega]) (by decide) rfl (fun ls hl => ?_)
      refine lv_goto (tgt := 23) hx hb dL_law_674 (by decide) ?_
      have hw := ih (j + 1) σ o th H locs ls (by omega) (by omega) hI hP hD hS (lv_sub hl [1, 2, 3, 4, 0] rfl)
      rw [show 40 + (j + 1) = 40 + j + 1 by omega, show 400 + 6 * (j + 1) = 400 + 6 * j + 6 by omega] at hw
      exact hw
    refine lv_aload_n hx hb dL_law_32 rfl (lv_at hl 0 rfl) ?_
    refine lv_iload hx hb dL_law_33 (lv_at hl 4 rfl) ?_
    have v0 : vp_in (nI (4 * j)) L := nI_in (by omega) (by omega)
    refine va_sld hx hb hX hbl hbA hS v0 dL_law_35 ?_
    refine lv_bipush (v := 15) hx hb dL_law_36 (by decide) ?_
    refine lv_iand hx hb dL_law_38 ?_
    obtain ⟨w, hw, ew⟩ := pk_andE (xs (nI (4 * j)).toNatClampNeg) (m := 15) 4 (by decide)
    have hw : w < 16 := hw
    refine p_top (w := .int (nI w)) (by rw [ew]) ?_
    have dflt : W p l e room_1 s m #[Value.ref b] below meth c H locs (40 + j) (400 + 6 * j) Q (F0 m 671 ls []) := W.widen (k := 40 + j + 1) (n := 400 + 6 * j + 6) (by omega) (by omega) (nxt H locs o σ th ls hI.mono hP hD hS hl)
    rcases (show w = 0 ∨ w = 1 ∨ w = 2 ∨ w = 3 ∨ w = 4 ∨ w = 5 ∨ w = 6 ∨ w = 7 ∨ w = 8 ∨ w = 9 ∨ w = 10 ∨ w = 11 ∨ w = 12 ∨ w = 13 ∨ w = 14 ∨ w = 15 by omega) with rfl | rfl | rfl | rfl | rfl | rfl | rfl | rfl | rfl | rfl | rfl | rfl | rfl | rfl | rfl | rfl
    · exact lv_tableIn (tgt := 92) (off := 53) hx hb dL_law_39 (by decide) (by decide) (by decide) (by decide) (law_c0 FF hst hj2 hI hi hC hP hD hS hl nxt)
    · exact lv_tableIn (tgt := 192) (off := 153) hx hb dL_law_39 (by decide) (by decide) (by decide) (by decide) (law_c1 FF hst hj2 hI hi hC hP hD hS hl nxt)
    · exact lv_tableIn (tgt := 260) (off := 221) hx hb dL_law_39 (by decide) (by decide) (by decide) (by decide) (law_c2 FF hst hj2 hI hi hC hP hD hS hl nxt)
    · exact lv_tableIn (tgt := 273) (off := 234) hx hb dL_law_39 (by decide) (by decide) (by decide) (by decide) (law_c3 FF hst hj2 hI hi hC hP hD hS hl nxt)
    · exact lv_tableIn (tgt := 328) (off := 289) hx hb dL_law_39 (by decide) (by decide) (by decide) (by decide) (law_c4 FF hst hj2 hI hi hC hP hD hS hl nxt)
    · exact lv_tableIn (tgt := 384) (off := 345) hx hb dL_law_39 (by decide) (by decide) (by decide) (by decide) (law_c5 FF hst hj2 hI hi hC hP hD hS hl nxt)
    · exact lv_tableIn (tgt := 397) (off := 358) hx hb dL_law_39 (by decide) (by decide) (by decide) (by decide) (law_c6 FF hst hj2 hI hi hC hP hD hS hl nxt)
    · refine lv_tableIn (tgt := 464) (off := 425) hx hb dL_law_39 (by decide) (by decide) (by decide) (by decide) ?_
      by_cases h7 : xs (nI (4 * j) + 2).toNatClampNeg = 0
      · exact law_c7a FF hst hj2 hI hi hC h7 hP hD hS hl nxt
      · exact law_c7b FF hst hj2 hI hi hC h7 hP hD hS hl nxt
    · exact lv_tableIn (tgt := 548) (off := 509) hx hb dL_law_39 (by decide) (by decide) (by decide) (by decide) (law_c8 FF hst hj2 hI hi hC hP hD hS hl nxt)
    · exact lv_tableIn (tgt := 615) (off := 576) hx hb dL_law_39 (by decide) (by decide) (by decide) (by decide) (law_c9 FF hst hj2 hI hi hC hP hD hS hl nxt)
    · exact lv_tableOut (tgt := 671) hx hb dL_law_39 (Or.inr (by decide)) (by decide) dflt
    · exact lv_tableOut (tgt := 671) hx hb dL_law_39 (Or.inr (by decide)) (by decide) dflt
    · exact lv_tableOut (tgt := 671) hx hb dL_law_39 (Or.inr (by decide)) (by decide) dflt
    · exact lv_tableOut (tgt := 671) hx hb dL_law_39 (Or.inr (by decide)) (by decide) dflt
    · exact lv_tableOut (tgt := 671) hx hb dL_law_39 (Or.inr (by decide)) (by decide) dflt
    · exact lv_tableOut (tgt := 671) hx hb dL_law_39 (Or.inr (by decide)) (by decide) dflt
