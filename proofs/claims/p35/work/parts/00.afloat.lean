/-! the mean age's number: no NaN, out of the library's laws of floating point -/
theorem age_mag (a b : Int32) (h : b.toInt ≠ 0) : (FP.ddiv (FP.i2d a) (FP.i2d b)).toNat % 2 ^ 63 < 1057 * 2 ^ 52 := by
  have h1 := Jvm.FP.Core.i2d_mag a
  have h2 := Jvm.FP.Core.i2d_big (v := b) h
  have h3 := Jvm.FP.Core.ddiv_mag (a := Jvm.FP.Core.i2d a) (b := Jvm.FP.Core.i2d b) (K := 1056) (L := 1023) h1 h2.1 h2.2 (by omega) (by omega)
  exact h3
theorem age_n64 (a b : Int32) (h : b.toInt ≠ 0) : FP.ddiv (FP.i2d a) (FP.i2d b) &&& 0x7fffffffffffffff ≤ 0x7ff0000000000000 := by
  have h1 := age_mag a b h
  rw [UInt64.le_iff_toNat_le, UInt64.toNat_and]
  show (FP.ddiv (FP.i2d a) (FP.i2d b)).toNat &&& (2 ^ 63 - 1) ≤ 2047 * 2 ^ 52
  rw [Nat.and_two_pow_sub_one_eq_mod]
  omega
theorem age_self (a b : Int32) (h : b.toInt ≠ 0) : FP.dcmp (FP.ddiv (FP.i2d a) (FP.i2d b)) (FP.ddiv (FP.i2d a) (FP.i2d b)) = some .eq := by
  have h1 := age_mag a b h
  obtain ⟨s, c, q, e⟩ := (Jvm.FP.Core.fin_bits (FP.ddiv (FP.i2d a) (FP.i2d b))).mpr (by omega)
  exact Jvm.FP.Core.dcmp_self (by rw [e]; intro h9; cases h9)
theorem age_zero : FP.dcmp FP.dconst0 FP.dconst0 = some .eq := by decide +kernel
theorem age_il {a : Int32} {x : Int64} (h : a.toInt = x.toInt) : FP.l2d x = FP.i2d a := by
  show UInt64.ofNat _ = UInt64.ofNat _
  rw [h]
