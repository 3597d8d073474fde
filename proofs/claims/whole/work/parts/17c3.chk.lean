theorem mckl_12 : mcl_12.all (mChk1 229) = true := by decide +kernel
theorem mckl_13 : mcl_13.all (mChk1 229) = true := by decide +kernel
theorem mckl_14 : mcl_14.all (mChk1 229) = true := by decide +kernel
theorem mckl_15 : mcl_15.all (mChk1 229) = true := by decide +kernel
