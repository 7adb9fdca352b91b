/-! A balance: its one cell changes; its sort's cell is read. -/
abbrev balW (b0 s0 : Nat) (c : Int32) (n l h w t : Int64) : va_W := [(b0, .inr (1, balF s0 c n l h w t))]
def bPre (D : va_G) (b0 s0 k : Nat) (c : Int32) (n l h w t : Int64) (U : State) : Prop := va_P D vwCl (balW b0 s0 c n l h w t) U.heap ∧ va_K D vwCl [] U ∧ absD U ∧ va_P D vwCl [(s0, .inr (soC k, soF k))] U.heap ∧ s0 ≠ b0 ∧ k < 4
theorem bPre_bl {D : va_G} {b0 s0 k : Nat} {c : Int32} {n l h w t : Int64} : blindP (bPre D b0 s0 k c n l h w t) := fun U g mk a q => ⟨q.1, va_K.moved (u := U) (U := U.calling g mk a) (Vm.Alike.refl U.vm) q.2.1, absD_calling q.2.2.1, q.2.2.2⟩
theorem so_keep {D : va_G} {b0 s0 : Nat} {e : va_E} {H0 H : Heap} {locs : List Loc} (hP : va_P D vwCl [(s0, e)] H0) (hne : s0 ≠ b0) (hS : va_S (fun q => q = b0) H0 H locs) : va_P D vwCl [(s0, e)] H := hP.kept (fun k q hk => by
  have hl : q.1 < H0.size := (hP k q hk).lt
  rcases k with _ | k
  · cases hk; exact hS.2.1 _ hl hne
  · cases hk)
theorem bal_D {b0 : Nat} {e : va_E} : va_D (fun q => q = b0) [(b0, e)] := by
  refine ⟨fun i j x y hi hj _ => ?_, fun i x hi => ?_⟩
  · rcases i with _ | i
    · rcases j with _ | j
      · rfl
      · cases hj
    · cases hi
  · rcases i with _ | i
    · cases hi; rfl
    · cases hi
