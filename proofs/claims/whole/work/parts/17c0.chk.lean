theorem mckl_0 : mcl_0.all (mChk1 229) = true := by decide +kernel
theorem mckl_1 : mcl_1.all (mChk1 229) = true := by decide +kernel
theorem mckl_2 : mcl_2.all (mChk1 229) = true := by decide +kernel
theorem mckl_3 : mcl_3.all (mChk1 229) = true := by decide +kernel
