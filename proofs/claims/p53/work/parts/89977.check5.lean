theorem chE_57 : chA 5 pl5 28 4 = true := by decide +kernel
