theorem mckl_8 : mcl_8.all (mChk1 229) = true := by decide +kernel
theorem mckl_9 : mcl_9.all (mChk1 229) = true := by decide +kernel
theorem mckl_10 : mcl_10.all (mChk1 229) = true := by decide +kernel
theorem mckl_11 : mcl_11.all (mChk1 229) = true := by decide +kernel
