/-! doubles: no answer is a NaN; the bits of a share -/
theorem fp_try (a b : UInt64) : FP.Core.val64 (FP.Core.ddiv a b) = FP.Core.quotient FP.Core.b64 (FP.Core.val64 a) (FP.Core.val64 b) := FP.Core.val64_ddiv a b
theorem fp_try2 (x : Int32) : FP.Core.i2d x = FP.Core.l2d x.toInt64 := FP.Core.i2d_l2d x
