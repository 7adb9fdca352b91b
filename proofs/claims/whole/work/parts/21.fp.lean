/-! Numbers that are no NaN. -/
theorem n64_iff (r : UInt64) : vf_n64 r ↔ FP.Core.dIsNaN r = false := by
  unfold vf_n64
  rw [FP.Core.notNaN_iff, FP.Core.ne_nan, UInt64.le_iff_toNat_le, FP.Core.mask_toNat]
  rfl
theorem n32_iff (r : UInt32) : vf_n32 r ↔ FP.Core.fIsNaN r = false := by
  unfold vf_n32
  rw [FP.Core.notNaN_iff32, FP.Core.ne_nan32, UInt32.le_iff_toNat_le, FP.Core.mask_toNat32]
  rfl
theorem nn_f2d {x : UInt32} (h : vf_n32 x) : vf_n64 (FP.f2d x) := (n64_iff _).mpr ((FP.f2d_nan x).trans ((n32_iff x).mp h))
theorem nn_d2f {x : UInt64} (h : vf_n64 x) : vf_n32 (FP.d2f x) := (n32_iff _).mpr ((FP.d2f_nan x).trans ((n64_iff x).mp h))
theorem sn32 {x : Int32} (h : vf_n32 x.toUInt32) : vn_sni2f x = false := by
  have h2 : ¬ (x.toUInt32 &&& 0x7fffffff > 0x7f800000) := UInt32.not_lt.mpr h
  simp [vn_sni2f, h2]
theorem sn64 {x : Int64} (h : vf_n64 x.toUInt64) : vn_snl2d x = false := by
  have h2 : ¬ (x.toUInt64 &&& 0x7fffffffffffffff > 0x7ff0000000000000) := UInt64.not_lt.mpr h
  simp [vn_snl2d, h2]
theorem nn_sub {v : UInt64} (h : vf_n64 v) (f : Int64) : vf_n64 (FP.dsub v (FP.l2d f)) := (n64_iff _).mpr (FP.Core.dsub_out ((n64_iff v).mp h) (FP.Core.l2d_fin f))
theorem nn_l2d (f : Int64) : vf_n64 (FP.l2d f) := (n64_iff _).mpr (FP.Core.l2d_fin f).notNaN
/-- b is a number of sort a, 2 or 3 -/
def okF (a : Int32) (b : Int64) : Prop := (a = 2 → vf_n32 b.toInt32.toUInt32) ∧ (¬ a = 2 → vf_n64 b.toUInt64)
