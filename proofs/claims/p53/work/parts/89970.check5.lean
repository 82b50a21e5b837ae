theorem chE_50 : chA 5 pl5 0 4 = true := by decide +kernel
