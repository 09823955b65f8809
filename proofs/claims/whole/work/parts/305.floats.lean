/-! FLOATS: what is no NaN, by bits and by value -/
theorem nn64_iff (a : UInt64) : nn64 a = true ↔ FP.Core.val64 a ≠ .nan := by
  rw [FP.Core.ne_nan]
  unfold nn64
  rw [decide_eq_true_eq, UInt64.le_iff_toNat_le, UInt64.toNat_and, show (0x7fffffffffffffff : UInt64).toNat = 2 ^ 63 - 1 from rfl, Nat.and_two_pow_sub_one_eq_mod]
  exact Iff.rfl
theorem dc_self {a : UInt64} (h : nn64 a = true) : Op.cmpValue (FP.dcmp a a) CmpOp.l = 0 := by
  rw [show FP.dcmp a a = some .eq from FP.Core.dcmp_self ((nn64_iff a).mp h)]
  rfl
theorem nn64_not (a : UInt64) : nn64 a = true ↔ FP.Core.dIsNaN a = false := (nn64_iff a).trans (FP.Core.notNaN_iff a).symm
theorem nn32_not (a : UInt32) : nn32 a = true ↔ FP.Core.fIsNaN a = false := by
  unfold nn32
  rw [decide_eq_true_eq, UInt32.le_iff_toNat_le, UInt32.toNat_and, show (0x7fffffff : UInt32).toNat = 2 ^ 31 - 1 from rfl, Nat.and_two_pow_sub_one_eq_mod]
  have h := FP.Core.isNaN_bits32 a
  rw [show (0x7f800000 : UInt32).toNat = 2139095040 from rfl]
  cases hn : FP.Core.fIsNaN a with
  | true => rw [hn] at h; simp; have := h.mp rfl; omega
  | false => rw [hn] at h; simp; simp at h; omega
/-- a quotient of whole numbers, the divisor not 0, is no NaN; nor is it as a double -/
theorem nn_fdiv (u v : Int32) (h : ¬ v = 0) : nn32 (FP.fdiv (FP.i2f u) (FP.i2f v)) = true :=
  (nn32_not _).mpr (FP.Core.fdiv_out (FP.Core.FFin.notNaN (FP.Core.i2f_fin u)) (FP.Core.i2f_fin v) (fun hz => FP.Core.i2f_ne_zero h ((FP.Core.zero_bits232 _).mp hz)))
theorem nn_f2d {a : UInt32} (h : nn32 a = true) : nn64 (FP.f2d a) = true := by
  have h1 := (nn32_not a).mp h
  rw [nn64_not]
  unfold FP.f2d
  rw [if_neg (by rw [h1]; decide), FP.Core.f2d_nan]
  exact h1
theorem nn_ddiv (u v : Int32) (h : ¬ v = 0) : nn64 (FP.ddiv (FP.i2d u) (FP.i2d v)) = true :=
  (nn64_not _).mpr (FP.Core.ddiv_out (FP.Core.DFin.notNaN (FP.Core.i2d_fin u)) (FP.Core.i2d_fin v) (fun hz => FP.Core.i2d_ne_zero h ((FP.Core.zero_bits2 _).mp hz)))
