theorem chE_54 : chA 5 pl5 16 4 = true := by decide +kernel
