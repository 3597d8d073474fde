theorem mckl_16 : mcl_16.all (mChk1 229) = true := by decide +kernel
theorem mckl_17 : mcl_17.all (mChk1 229) = true := by decide +kernel
theorem mckl_18 : mcl_18.all (mChk1 229) = true := by decide +kernel
theorem mckl_19 : mcl_19.all (mChk1 229) = true := by decide +kernel
