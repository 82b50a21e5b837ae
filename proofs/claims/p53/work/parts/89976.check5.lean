theorem chE_56 : chA 5 pl5 24 4 = true := by decide +kernel
