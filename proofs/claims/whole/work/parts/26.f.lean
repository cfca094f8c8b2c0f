/-! a number as a float is a number as a double; held against itself it is the same -/
theorem nn_f {a : UInt32} (h : a &&& 0x7fffffff ≤ 0x7f800000) : FP.Core.fIsNaN a = false := by
  rw [UInt32.le_iff_toNat_le, UInt32.toNat_and, show (0x7fffffff : UInt32).toNat = 2 ^ 31 - 1 from rfl, Nat.and_two_pow_sub_one_eq_mod, show (0x7f800000 : UInt32).toNat = 2139095040 from rfl] at h
  cases e : FP.Core.fIsNaN a with
  | false => rfl
  | true =>
    have := (FP.Core.isNaN_bits32 a).mp e
    omega
theorem nn_d {a : UInt64} : FP.Core.dIsNaN a = false ↔ vf_n64 a := by
  unfold vf_n64
  rw [UInt64.le_iff_toNat_le, UInt64.toNat_and, show (0x7fffffffffffffff : UInt64).toNat = 2 ^ 63 - 1 from rfl, Nat.and_two_pow_sub_one_eq_mod, show (0x7ff0000000000000 : UInt64).toNat = 9218868437227405312 from rfl]
  have h := FP.Core.isNaN_bits a
  cases e : FP.Core.dIsNaN a with
  | false =>
    rw [e] at h
    have : ¬ 9218868437227405312 < a.toNat % 2 ^ 63 := fun z => by have := h.mpr z; cases this
    simp only [true_iff]
    omega
  | true =>
    have := h.mp e
    simp only [Bool.true_eq_false, false_iff]
    omega
theorem vf_f2d {a : UInt32} (h : a &&& 0x7fffffff ≤ 0x7f800000) : vf_n64 (FP.f2d a) := nn_d.mp ((FP.f2d_nan a).trans (nn_f h))
theorem dcmp_self {a : UInt64} (h : vf_n64 a) : Op.cmpValue (FP.dcmp a a) .l = 0 := by
  have e : FP.dcmp a a = some .eq := FP.Core.dcmp_refl (nn_d.mpr h)
  rw [e]
  rfl
