section LOOP
variable {p : Program} {l : Launch} {e : Env} {R : Room} {s : State} {m : MethodId} {args : Array Value} {below : List Frame} {meth : Method} {c : Code} {H : Heap} {locs : List Loc} {cells slots : Nat} {Q : State → Prop}
/-- a loop that touches no heap: k falls -/
theorem p_loop {α : Type} {J nL : Nat} {st : List Value} (lv : Nat → α → List (Nat × Value)) (I : Nat → α → Prop)
    (step : ∀ (k : Nat) (a : α) (ls : Array Slot), I k a → lv_has ls nL (lv k a) → (∀ (k' : Nat) (a' : α) (ls' : Array Slot), k' < k → I k' a' → lv_has ls' nL (lv k' a') → W p l e R s m args below meth c H locs cells slots Q (F0 m J ls' st)) → W p l e R s m args below meth c H locs cells slots Q (F0 m J ls st))
    (k0 : Nat) (a0 : α) (h0 : I k0 a0) (ls : Array Slot) (hl : lv_has ls nL (lv k0 a0)) : W p l e R s m args below meth c H locs cells slots Q (F0 m J ls st) := by
  have h : ∀ (n k : Nat) (a : α) (ls : Array Slot), k < n → I k a → lv_has ls nL (lv k a) → W p l e R s m args below meth c H locs cells slots Q (F0 m J ls st) := by
    intro n
    induction n with
    | zero => intro k a ls hk; omega
    | succ n ih => intro k a ls hk hI hl; exact step k a ls hI hl (fun k' a' ls' hk' hI' hl' => ih k' a' ls' (by omega) hI' hl')
  exact h (k0 + 1) k0 a0 ls (by omega) h0 hl
end LOOP
/-- the loop of 'rounded': shifted up while it is small -/
def rndLoop (ln : Int64) : Nat → Int64 → Int32 → Int64 × Int32
  | 0, m, e => (m, e)
  | k + 1, m, e => if m < ln then (if 1 < e then rndLoop ln k (m <<< ((1 : Int32).toInt64 &&& 63)) (e + (-1)) else (m, e)) else (m, e)
