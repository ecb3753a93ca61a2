/-- a quotient of two whole numbers, the second not 0, is no NaN -/
theorem nn_div {a b : Int32} (hb : b ≠ 0) : vf_n64 (FP.ddiv (FP.i2d a) (FP.i2d b)) := by
  have key : Jvm.FP.Core.dIsNaN (Jvm.FP.Core.ddiv (Jvm.FP.Core.i2d a) (Jvm.FP.Core.i2d b)) = false := by
    rw [Bool.eq_false_iff]
    intro h
    rcases (Jvm.FP.Core.ddiv_nan_iff _ _).mp h with h | h | ⟨s, t, h1, h2⟩ | ⟨h1, h2⟩
    · obtain ⟨s', c, q, e⟩ := Jvm.FP.Core.i2d_fin a
      rw [e] at h; cases h
    · obtain ⟨s', c, q, e⟩ := Jvm.FP.Core.i2d_fin b
      rw [e] at h; cases h
    · obtain ⟨s', c, q, e⟩ := Jvm.FP.Core.i2d_fin a
      rw [e] at h1; cases h1
    · exact Jvm.FP.Core.i2d_ne_zero hb ((Jvm.FP.Core.zero_bits2 _).mp h2)
  have hn : ¬ 9218868437227405312 < (Jvm.FP.Core.ddiv (Jvm.FP.Core.i2d a) (Jvm.FP.Core.i2d b)).toNat % 2 ^ 63 := by
    intro h
    rw [(Jvm.FP.Core.isNaN_bits _).mpr h] at key
    cases key
  show Jvm.FP.Core.ddiv (Jvm.FP.Core.i2d a) (Jvm.FP.Core.i2d b) &&& 0x7fffffffffffffff ≤ 0x7ff0000000000000
  rw [UInt64.le_iff_toNat_le, UInt64.toNat_and]
  have e1 : (0x7fffffffffffffff : UInt64).toNat = 2 ^ 63 - 1 := by decide
  have e2 : (0x7ff0000000000000 : UInt64).toNat = 9218868437227405312 := by decide
  rw [e1, e2, Nat.and_two_pow_sub_one_eq_mod]
  omega
