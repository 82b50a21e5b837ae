theorem chE_53 : chA 5 pl5 12 4 = true := by decide +kernel
