theorem chE_55 : chA 5 pl5 20 4 = true := by decide +kernel
