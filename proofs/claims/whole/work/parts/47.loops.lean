/-! The component's tape, as a function. -/
/-- 0: the order may be done; 2, 3: it is refused -/
def cRef (σ : St) (g : Int32) (i : Nat) (v : Int64) : Int32 :=
  if sX4_usesBalance (zCds σ i) = 0 then 0 else if sX4_sortOf (zOps σ i) = sX4_sortOf g then (if zCnt σ (zOps σ i).toNatClampNeg = 0 then 2 else (if zCds σ i = 9 then (if so_canMeet ((zOps σ i).toNatClampNeg / 4) v (zNow σ (zOps σ i).toNatClampNeg) = 0 then 3 else 0) else 0)) else 2
def cLoop (σ : St) (g : Int32) (K : Nat) : Nat → Nat → Int64 → Int64 × Int32 × Int32
  | 0, _, v => (v, 0, -1)
  | n + 1, i, v => if cRef σ g i v = 0 then cLoop σ g K n (i + 1) (sX4_orderDone σ K (zCds σ i) (zOps σ i) v) else (v, cRef σ g i v, nI i)
def tapeOK (σ : St) (n : Nat) : Prop := zOrd σ = nI n ∧ n ≤ 12 ∧ ∀ i, i < n → ¬ sX4_usesBalance (zCds σ i) = 0 → vp_in (zOps σ i) 16
theorem uses_of {a : Int32} (h : a = 5 ∨ a = 6 ∨ a = 7 ∨ a = 9 ∨ a = 11) : ¬ sX4_usesBalance a = 0 := by
  rcases h with rfl | rfl | rfl | rfl | rfl <;> decide
theorem cRef_vals {σ : St} {g : Int32} {i : Nat} {v : Int64} : cRef σ g i v = 0 ∨ cRef σ g i v = 2 ∨ cRef σ g i v = 3 := by
  unfold cRef
  split
  · exact Or.inl rfl
  · split
    · split
      · exact Or.inr (Or.inl rfl)
      · split
        · split
          · exact Or.inr (Or.inr rfl)
          · exact Or.inl rfl
        · exact Or.inl rfl
    · exact Or.inr (Or.inl rfl)
