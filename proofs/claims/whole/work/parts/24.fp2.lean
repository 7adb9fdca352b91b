theorem cmp_self64 {x : UInt64} (h : vf_n64 x) : FP.dcmp x x = some .eq := FP.Core.dcmp_refl ((n64_iff x).mp h)
theorem cmp_self32 {x : UInt32} (h : vf_n32 x) : FP.fcmp x x = some .eq := FP.Core.fcmp_refl ((n32_iff x).mp h)
theorem lb64 {x : UInt64} (h : vf_n64 x) : sJxe99ae_doubleToLongBits_ccdee x = x.toInt64 := by
  have h1 : sJxe99ae_isNaN_b9ae7 x = 0 := by rw [sJxe99ae_isNaN_b9ae7, cmp_self64 h]; decide
  rw [sJxe99ae_doubleToLongBits_ccdee, if_pos h1]
theorem ib32 {x : UInt32} (h : vf_n32 x) : sJxf58ca_floatToIntBits_5c35a x = x.toInt32 := by
  have h1 : sJxf58ca_isNaN_12338 x = 0 := by rw [sJxf58ca_isNaN_12338, cmp_self32 h]; decide
  rw [sJxf58ca_floatToIntBits_5c35a, if_pos h1]
theorem bits2 {x : UInt64} (h : vf_n64 x) : sX5_bits 2 x = (FP.d2f x).toInt32.toInt64 := by
  rw [sX5_bits, if_pos rfl, ib32 (nn_d2f h)]
theorem bits3 {a : Int32} (ha : ¬ a = 2) {x : UInt64} (h : vf_n64 x) : sX5_bits a x = x.toInt64 := by
  rw [sX5_bits, if_neg ha, lb64 h]
theorem nn_real {a : Int32} {v : Int64} (h : okF a v) : vf_n64 (sX5_real a v) := by
  unfold sX5_real
  by_cases h1 : a = 2
  · rw [if_pos h1]; exact nn_f2d (h.1 h1)
  · rw [if_neg h1]; exact h.2 h1
theorem nn_whole {x : UInt64} {k : Int32} (h : vf_n64 x) : vf_n64 (sX5_whole x k) := by
  unfold sX5_whole
  split
  · split
    · split
      · split
        · exact nn_l2d _
        · unfold vf_n64; decide
      · exact nn_l2d _
    · exact h
  · exact h
theorem ok_bits {a : Int32} {x : UInt64} (h : vf_n64 x) : okF a (sX5_bits a x) := by
  refine ⟨fun h1 => ?_, fun h1 => ?_⟩
  · subst h1
    rw [bits2 h, Int32.toInt32_toInt64, UInt32.toUInt32_toInt32]
    exact nn_d2f h
  · rw [bits3 h1 h, UInt64.toUInt64_toInt64]
    exact h
def okP (k : Int32) : Prop := -10 ≤ k ∧ k ≤ 10
theorem pw_all : ∀ i : Fin 21, vf_n64 (FP.ddiv FP.dconst1 (FP.i2d ((1 : Int32) <<< ((-(Int32.ofInt ((i.val : Int) - 10))) &&& 31)))) ∧ (sX5_power (Int32.ofInt ((i.val : Int) - 10))).toNat % 2 ^ 63 < 9218868437227405312 ∧ (sX5_power (Int32.ofInt ((i.val : Int) - 10))).toNat % 2 ^ 63 ≠ 0 := by
  unfold vf_n64
  decide +kernel
theorem okP_cases {P : Int32 → Prop} (h : ∀ i : Fin 21, P (Int32.ofInt ((i.val : Int) - 10))) {k : Int32} (hk : okP k) : P k := by
  have h1 : (-10 : Int) ≤ k.toInt := Int32.le_iff_toInt_le.mp hk.1
  have h2 : k.toInt ≤ (10 : Int) := Int32.le_iff_toInt_le.mp hk.2
  have h3 := h ⟨(k.toInt + 10).toNat, by omega⟩
  have e : (((k.toInt + 10).toNat : Nat) : Int) - 10 = k.toInt := by omega
  simp only [e] at h3
  rwa [Int32.ofInt_toInt] at h3
theorem pw_div {k : Int32} (hk : okP k) : k < 0 → vf_n64 (FP.ddiv FP.dconst1 (FP.i2d ((1 : Int32) <<< ((-k) &&& 31)))) := fun _ => okP_cases (P := fun k => vf_n64 (FP.ddiv FP.dconst1 (FP.i2d ((1 : Int32) <<< ((-k) &&& 31))))) (fun i => (pw_all i).1) hk
theorem pw_fin {k : Int32} (hk : okP k) : FP.Core.DFin (sX5_power k) := (FP.Core.fin_bits _).mpr (okP_cases (P := fun k => (sX5_power k).toNat % 2 ^ 63 < 9218868437227405312) (fun i => (pw_all i).2.1) hk)
theorem pw_nz {k : Int32} (hk : okP k) : ¬ FP.Core.DZero (sX5_power k) := fun h => (okP_cases (P := fun k => (sX5_power k).toNat % 2 ^ 63 ≠ 0) (fun i => (pw_all i).2.2) hk) ((FP.Core.zero_bits2 _).mp h)
theorem nn_mulp {x : UInt64} {k : Int32} (h : vf_n64 x) (hk : okP k) : vf_n64 (FP.dmul x (sX5_power k)) := (n64_iff _).mpr (FP.Core.dmul_out' ((n64_iff x).mp h) (pw_fin hk) (pw_nz hk))
theorem okP_neg {k : Int32} (hk : okP k) : okP (-k) := okP_cases (P := fun k => okP (-k)) (fun i => (by unfold okP; revert i; decide)) hk
theorem nn_half {x : UInt64} (h : vf_n64 x) : vf_n64 (FP.dmul x 4602678819172646912) := (n64_iff _).mpr (FP.Core.dmul_out' ((n64_iff x).mp h) ((FP.Core.fin_bits _).mpr (by decide)) (fun q => absurd ((FP.Core.zero_bits2 _).mp q) (by decide)))
