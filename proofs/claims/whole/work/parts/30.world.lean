/-! The state of class and reference: counts, now, least, greatest, swing, trend, codes, operands, how many orders, which was refused. -/
abbrev St : Type := (Nat → Int32) × (Nat → Int64) × (Nat → Int64) × (Nat → Int64) × (Nat → Int64) × (Nat → Int64) × (Nat → Int32) × (Nat → Int32) × Int32 × Int32
abbrev zCnt (σ : St) : Nat → Int32 := σ.1
abbrev zNow (σ : St) : Nat → Int64 := σ.2.1
abbrev zLst (σ : St) : Nat → Int64 := σ.2.2.1
abbrev zGst (σ : St) : Nat → Int64 := σ.2.2.2.1
abbrev zSwg (σ : St) : Nat → Int64 := σ.2.2.2.2.1
abbrev zTrd (σ : St) : Nat → Int64 := σ.2.2.2.2.2.1
abbrev zCds (σ : St) : Nat → Int32 := σ.2.2.2.2.2.2.1
abbrev zOps (σ : St) : Nat → Int32 := σ.2.2.2.2.2.2.2.1
abbrev zOrd (σ : St) : Int32 := σ.2.2.2.2.2.2.2.2.1
abbrev zRfs (σ : St) : Int32 := σ.2.2.2.2.2.2.2.2.2
/-- one balance anew -/
def zBal (σ : St) (g : Nat) (c : Int32) (n l h w t : Int64) : St := (upd (zCnt σ) g c, vp_updL (zNow σ) g n, vp_updL (zLst σ) g l, vp_updL (zGst σ) g h, vp_updL (zSwg σ) g w, vp_updL (zTrd σ) g t, zCds σ, zOps σ, zOrd σ, zRfs σ)
def zSetOrd (σ : St) (n : Int32) : St := (zCnt σ, zNow σ, zLst σ, zGst σ, zSwg σ, zTrd σ, zCds σ, zOps σ, n, zRfs σ)
def zSetRfs (σ : St) (n : Int32) : St := (zCnt σ, zNow σ, zLst σ, zGst σ, zSwg σ, zTrd σ, zCds σ, zOps σ, zOrd σ, n)
def zPush (σ : St) (i : Nat) (c k : Int32) (n : Int32) : St := (zCnt σ, zNow σ, zLst σ, zGst σ, zSwg σ, zTrd σ, upd (zCds σ) i c, upd (zOps σ) i k, n, zRfs σ)
/-- a balance's cell -/
def balF (so : Nat) (c : Int32) (n l h w t : Int64) : List Value := [.ref so, .int c, .long n, .long l, .long h, .long w, .long t]
abbrev balC (ra : Nat → Nat) (σ : St) (g : Nat) : Nat × va_E := (ra (4 + g), .inr (1, balF (ra (20 + g / 4)) (zCnt σ g) (zNow σ g) (zLst σ g) (zGst σ g) (zSwg σ g) (zTrd σ g)))
abbrev soCell (ra : Nat → Nat) (k : Nat) : Nat × va_E := (ra (20 + k), .inr (soC k, soF k))
/-- the class's cells -/
def RW (cI cB : ClassId) (ra : Nat → Nat) (σ : St) (fr : va_W) : va_W :=
  (ra 0, .inr (4, [.ref (ra 1), .ref (ra 2), .ref (ra 3), .int (zOrd σ), .int (zRfs σ)])) ::
  (ra 1, .inl (cB, 16, .inr (.inr (.inr (.inr (fun i => some (ra (4 + i)))))))) ::
  (ra 2, .inl (cI, 12, .inl (zCds σ))) :: (ra 3, .inl (cI, 12, .inl (zOps σ))) ::
  (balC ra σ 0 :: balC ra σ 1 :: balC ra σ 2 :: balC ra σ 3 :: balC ra σ 4 :: balC ra σ 5 :: balC ra σ 6 :: balC ra σ 7 ::
  balC ra σ 8 :: balC ra σ 9 :: balC ra σ 10 :: balC ra σ 11 :: balC ra σ 12 :: balC ra σ 13 :: balC ra σ 14 :: balC ra σ 15 ::
  soCell ra 0 :: soCell ra 1 :: soCell ra 2 :: soCell ra 3 :: fr)
/-- the reference's cells -/
def MW (cI cJ : ClassId) (ma : Nat → Nat) (th : Int32) (σ : St) (fr : va_W) : va_W :=
  (ma 0, .inr (5, [.int th, .ref (ma 1), .ref (ma 2), .ref (ma 3), .ref (ma 4), .ref (ma 5), .ref (ma 6), .ref (ma 7), .ref (ma 8), .int (zOrd σ), .int (zRfs σ)])) ::
  (ma 1, .inl (cI, 16, .inl (zCnt σ))) :: (ma 2, .inl (cJ, 16, .inr (.inl (zNow σ)))) :: (ma 3, .inl (cJ, 16, .inr (.inl (zLst σ)))) :: (ma 4, .inl (cJ, 16, .inr (.inl (zGst σ)))) ::
  (ma 5, .inl (cJ, 16, .inr (.inl (zSwg σ)))) :: (ma 6, .inl (cJ, 16, .inr (.inl (zTrd σ)))) :: (ma 7, .inl (cI, 12, .inl (zCds σ))) :: (ma 8, .inl (cI, 12, .inl (zOps σ))) :: fr
theorem rw_bal {cI cB : ClassId} {ra : Nat → Nat} {σ : St} {fr : va_W} {g : Nat} (h : g < 16) : (RW cI cB ra σ fr)[4 + g]? = some (balC ra σ g) := by
  rcases (show g = 0 ∨ g = 1 ∨ g = 2 ∨ g = 3 ∨ g = 4 ∨ g = 5 ∨ g = 6 ∨ g = 7 ∨ g = 8 ∨ g = 9 ∨ g = 10 ∨ g = 11 ∨ g = 12 ∨ g = 13 ∨ g = 14 ∨ g = 15 by omega) with rfl | rfl | rfl | rfl | rfl | rfl | rfl | rfl | rfl | rfl | rfl | rfl | rfl | rfl | rfl | rfl <;> rfl
theorem rw_so {cI cB : ClassId} {ra : Nat → Nat} {σ : St} {fr : va_W} {k : Nat} (h : k < 4) : (RW cI cB ra σ fr)[20 + k]? = some (soCell ra k) := by
  rcases (show k = 0 ∨ k = 1 ∨ k = 2 ∨ k = 3 by omega) with rfl | rfl | rfl | rfl <;> rfl
theorem rw_set {cI cB : ClassId} {ra : Nat → Nat} {σ : St} {fr : va_W} {g : Nat} (h : g < 16) (c : Int32) (n l hh w t : Int64) : (RW cI cB ra σ fr).set (4 + g) (ra (4 + g), .inr (1, balF (ra (20 + g / 4)) c n l hh w t)) = RW cI cB ra (zBal σ g c n l hh w t) fr := by
  rcases (show g = 0 ∨ g = 1 ∨ g = 2 ∨ g = 3 ∨ g = 4 ∨ g = 5 ∨ g = 6 ∨ g = 7 ∨ g = 8 ∨ g = 9 ∨ g = 10 ∨ g = 11 ∨ g = 12 ∨ g = 13 ∨ g = 14 ∨ g = 15 by omega) with rfl | rfl | rfl | rfl | rfl | rfl | rfl | rfl | rfl | rfl | rfl | rfl | rfl | rfl | rfl | rfl <;> rfl
/-- a world in which one cell is anew, behind a call that changed it alone -/
theorem va_P_one {D : va_G} {cl : List vw_C} {A : Nat → Prop} {p : Nat} {ws : va_W} {a : Nat} {e0 e : va_E} {H H1 : Heap} (h : va_P D cl ws H) (hD : va_D A ws) (hp : ws[p]? = some (a, e0)) (he : va_at D cl (a, e) H1) (oq : ∀ q : Nat, q < H.size → q ≠ a → H1[q]? = H[q]?) : va_P D cl (ws.set p (a, e)) H1 := by
  intro k q hk
  by_cases hkp : k = p
  · subst hkp
    have hl : k < ws.length := (List.getElem?_eq_some_iff.mp hp).1
    rw [List.getElem?_set_self hl] at hk
    cases hk
    exact he
  · rw [List.getElem?_set_ne (fun h => hkp h.symm)] at hk
    have hne : q.1 ≠ a := fun hq => hkp (hD.1 k p q (a, e0) hk hp hq)
    exact (h k q hk).kept (oq q.1 (h k q hk).lt hne)
theorem va_D_same {A : Nat → Prop} {ws ws' : va_W} (he : ws.map (·.1) = ws'.map (·.1)) (h : va_D A ws) : va_D A ws' := by
  have key : ∀ (k : Nat) (q : Nat × va_E), ws'[k]? = some q → ∃ q0, ws[k]? = some q0 ∧ q0.1 = q.1 := by
    intro k q hk
    have h1 : (ws'.map (·.1))[k]? = some q.1 := by rw [List.getElem?_map, hk]; rfl
    rw [← he, List.getElem?_map] at h1
    cases hq : ws[k]? with
    | none => rw [hq] at h1; cases h1
    | some q0 => rw [hq] at h1; exact ⟨q0, rfl, Option.some.inj h1⟩
  refine ⟨fun i j p q hi hj hpq => ?_, fun k q hk => ?_⟩
  · obtain ⟨p0, h1, h2⟩ := key i p hi
    obtain ⟨q0, h3, h4⟩ := key j q hj
    exact h.1 i j p0 q0 h1 h3 (by rw [h2, h4]; exact hpq)
  · obtain ⟨q0, h1, h2⟩ := key k q hk
    rw [← h2]
    exact h.2 k q0 h1
theorem rw_D {A : Nat → Prop} {cI cB : ClassId} {ra : Nat → Nat} {σ σ' : St} {fr : va_W} (h : va_D A (RW cI cB ra σ fr)) : va_D A (RW cI cB ra σ' fr) := va_D_same (ws := RW cI cB ra σ fr) rfl h
theorem mw_D {A : Nat → Prop} {cI cJ : ClassId} {ma : Nat → Nat} {th th' : Int32} {σ σ' : St} {fr : va_W} (h : va_D A (MW cI cJ ma th σ fr)) : va_D A (MW cI cJ ma th' σ' fr) := va_D_same (ws := MW cI cJ ma th σ fr) rfl h
/-- a method's end: this value, this world, nothing changed outside A -/
def iq (D : va_G) (A : Nat → Prop) (v : Option Value) (ws : va_W) : Array Value → State → Outcome → State → Prop := fun _ st oc t => oc = .returned v ∧ va_P D vwCl ws t.heap ∧ va_F A st t
