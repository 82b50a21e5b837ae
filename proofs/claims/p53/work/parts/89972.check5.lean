theorem chE_52 : chA 5 pl5 8 4 = true := by decide +kernel
