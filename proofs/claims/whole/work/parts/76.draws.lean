/-! THE LAW'S TURNS THAT DRAW -/
theorem i64 : (0x7ff0000000000000 : UInt64).toNat = 9218868437227405312 := by decide +kernel
theorem k64 : (0x7fffffffffffffff : UInt64).toNat = 2 ^ 63 - 1 := by decide +kernel
theorem i32 : (0x7f800000 : UInt32).toNat = 2139095040 := by decide +kernel
theorem k32 : (0x7fffffff : UInt32).toNat = 2 ^ 31 - 1 := by decide +kernel
theorem n64 (a : UInt64) : isNaN64 a = true ↔ FP.Core.dIsNaN a = true := by
  rw [FP.Core.isNaN_bits]
  unfold isNaN64
  rw [decide_eq_true_iff, gt_iff_lt, UInt64.lt_iff_toNat_lt, UInt64.toNat_and, k64, Nat.and_two_pow_sub_one_eq_mod, i64]
theorem n32 (a : UInt32) : isNaN32 a = true ↔ FP.Core.fIsNaN a = true := by
  rw [FP.Core.isNaN_bits32]
  unfold isNaN32
  rw [decide_eq_true_iff, gt_iff_lt, UInt32.lt_iff_toNat_lt, UInt32.toNat_and, k32, Nat.and_two_pow_sub_one_eq_mod, i32]
