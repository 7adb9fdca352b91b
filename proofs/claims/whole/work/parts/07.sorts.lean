/-! The classes' rows among the words; the sorts' cells. -/
theorem aw_all {ws : List Cond} (h : ws.all (fun w => decide (w ∈ lw_tbl) && goodWord w) = true) : ∀ w ∈ ws, w ∈ AW := fun w hw => by
  have h1 := List.all_eq_true.mp h w hw
  simp only [Bool.and_eq_true, decide_eq_true_eq] at h1
  exact aw_mem h1.1 h1.2
theorem inX0 : ∀ w ∈ wsX00, w ∈ AW := aw_all (by decide +kernel)
theorem inX1 : ∀ w ∈ wsX10, w ∈ AW := aw_all (by decide +kernel)
theorem inX3 : ∀ w ∈ wsX30, w ∈ AW := aw_all (by decide +kernel)
theorem inX4 : ∀ w ∈ wsX40, w ∈ AW := aw_all (by decide +kernel)
theorem inX5 : ∀ w ∈ wsX50, w ∈ AW := aw_all (by decide +kernel)
def psNar (n : Bool) : Int32 := bif n then 1 else 0
def psFB (n : Bool) : Int32 := bif n then 23 else 52
def psHB (n : Bool) : Int64 := bif n then 8388608 else 4503599627370496
def psSB (n : Bool) : Int64 := bif n then -2147483648 else -9223372036854775808
def psE1 (n : Bool) : Int32 := bif n then 127 else 1023
def psEI (n : Bool) : Int32 := bif n then 255 else 2047
def psOne (n : Bool) : Int64 := bif n then 1065353216 else 4607182418800017408
def psHalf (n : Bool) : Int64 := bif n then 1056964608 else 4602678819172646912
def psInf (n : Bool) : Int64 := bif n then 2139095040 else 9218868437227405312
def psF (n : Bool) : List Value := [.int (psNar n), .int (psFB n), .long (psHB n), .long (psSB n), .int (psE1 n), .int (psEI n), .long (psOne n), .long (psHalf n), .long (psInf n)]
def wsF (n : Bool) : List Value := [.int (psNar n)]
/-- the methods of Sort without a body -/
def absM : List MethodName := [⟨RX2, "isNumber", "(J)Z"⟩, ⟨RX2, "rank", "(J)J"⟩, ⟨RX2, "size", "(J)J"⟩, ⟨RX2, "down", "(J)J"⟩, ⟨RX2, "up", "(J)J"⟩, ⟨RX2, "near", "(J)J"⟩, ⟨RX2, "sign", "(J)J"⟩, ⟨RX2, "like", "(JJ)J"⟩, ⟨RX2, "step", "(JI)J"⟩, ⟨RX2, "canMeet", "(JJ)Z"⟩, ⟨RX2, "meet", "(JJ)J"⟩, ⟨RX2, "turn", "(J)J"⟩, ⟨RX2, "part", "(J)J"⟩, ⟨RX2, "change", "(JJ)J"⟩, ⟨RX2, "withHalf", "(JJ)J"⟩]
def absD (U : State) : Prop := ∀ x ∈ absM, va_Nw (.declares x) U
theorem absD_calling {U : State} {g : JFrame} {mk : MethodId} {a : Array Value} (h : absD U) : absD (U.calling g mk a) := fun x hx => va_Nw.same rfl rfl (h x hx)
theorem absD_warm {s U : State} (hW : s.WarmedH U.vm) (h : absD s) : absD U := fun x hx => va_Nw.warmD hW (h x hx)
theorem absD_of {args : Array Value} {s : State} (hts : ∀ w ∈ lw_tbl, w.before args s = true) : absD s := by
  have h : ∀ x ∈ absM, Cond.declares x ∈ lw_tbl := by decide +kernel
  exact fun x hx => va_Nw.of rfl (hts _ (h x hx))
/-- a sort's cell: PointSort (class 2), WholeSort (class 3) -/
def soPS (D : va_G) (h : Nat) (n : Bool) (U : State) : Prop := va_P D vwCl [(h, .inr (2, psF n))] U.heap ∧ va_K D vwCl [] U ∧ absD U
def soWS (D : va_G) (h : Nat) (n : Bool) (U : State) : Prop := va_P D vwCl [(h, .inr (3, wsF n))] U.heap ∧ va_K D vwCl [] U ∧ absD U
theorem soPS_bl {D : va_G} {h : Nat} {n : Bool} : blindP (soPS D h n) := fun U g mk a q => ⟨q.1, va_K.moved (u := U) (U := U.calling g mk a) (Vm.Alike.refl U.vm) q.2.1, absD_calling q.2.2⟩
theorem soWS_bl {D : va_G} {h : Nat} {n : Bool} : blindP (soWS D h n) := fun U g mk a q => ⟨q.1, va_K.moved (u := U) (U := U.calling g mk a) (Vm.Alike.refl U.vm) q.2.1, absD_calling q.2.2⟩
theorem soPS_go {D : va_G} {h : Nat} {n : Bool} {s : State} {H : Heap} (hP : va_P D vwCl [(h, .inr (2, psF n))] H) (hK : va_K D vwCl [] s) (hA : absD s) : ∀ U : State, U.heap = H → s.WarmedH U.vm → soPS D h n U := fun U hU hW => ⟨by rw [hU]; exact hP, va_K.moved hW.alike hK, absD_warm hW hA⟩
theorem soWS_go {D : va_G} {h : Nat} {n : Bool} {s : State} {H : Heap} (hP : va_P D vwCl [(h, .inr (3, wsF n))] H) (hK : va_K D vwCl [] s) (hA : absD s) : ∀ U : State, U.heap = H → s.WarmedH U.vm → soWS D h n U := fun U hU hW => ⟨by rw [hU]; exact hP, va_K.moved hW.alike hK, absD_warm hW hA⟩
theorem pq_l {a b : Int64} {args : Array Value} {st t : State} (h : a = b) (ht : t.heap = st.heap) : pq (.long b) args st (.returned (some (.long a))) t := ⟨by rw [h], ht⟩
theorem pq_i {a b : Int32} {args : Array Value} {st t : State} (h : a = b) (ht : t.heap = st.heap) : pq (.int b) args st (.returned (some (.int a))) t := ⟨by rw [h], ht⟩
theorem pq_d {a b : UInt64} {args : Array Value} {st t : State} (h : a = b) (ht : t.heap = st.heap) : pq (.double b) args st (.returned (some (.double a))) t := ⟨by rw [h], ht⟩
theorem nil_free {free : Addr → Prop} : ∀ q ∈ ([] : List Loc), free q.base := fun q hq => absurd hq List.not_mem_nil
section JOIN
variable {p : Program} {l : Launch} {e : Env} {R : Room} {s : State} {m : MethodId} {args : Array Value} {below : List Frame} {meth : Method} {c : Code} {H : Heap} {locs : List Loc} {cells slots : Nat} {Q : State → Prop}
theorem p_join {J nL : Nat} {st : List Value} {lv : List (Nat × Value)} {g : JFrame} (k : ∀ ls' : Array Slot, lv_has ls' nL lv → W p l e R s m args below meth c H locs cells slots Q (F0 m J ls' st)) (h : (∀ ls' : Array Slot, lv_has ls' nL lv → W p l e R s m args below meth c H locs cells slots Q (F0 m J ls' st)) → W p l e R s m args below meth c H locs cells slots Q g) : W p l e R s m args below meth c H locs cells slots Q g := h k
end JOIN
