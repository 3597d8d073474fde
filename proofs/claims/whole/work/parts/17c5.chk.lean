theorem mckl_20 : mcl_20.all (mChk1 229) = true := by decide +kernel
