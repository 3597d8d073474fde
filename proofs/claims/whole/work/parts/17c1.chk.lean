theorem mckl_4 : mcl_4.all (mChk1 229) = true := by decide +kernel
theorem mckl_5 : mcl_5.all (mChk1 229) = true := by decide +kernel
theorem mckl_6 : mcl_6.all (mChk1 229) = true := by decide +kernel
theorem mckl_7 : mcl_7.all (mChk1 229) = true := by decide +kernel
