/-! the laws of floats stand in the rest of the library -/
theorem wide_b64 : Jvm.FP.Core.Good Jvm.FP.Core.b64 := Jvm.FP.Core.good_b64
