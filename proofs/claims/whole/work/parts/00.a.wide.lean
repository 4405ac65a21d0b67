/-! a name of the whole library, so that the rounds go wide from the first part on -/
theorem wide_dmul (x y : UInt64) : FP.dmul x y = FP.dmul y x := FP.Core.dmul_comm x y
