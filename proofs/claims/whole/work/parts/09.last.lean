theorem zz_last : CL.length = 15 := by decide +kernel
