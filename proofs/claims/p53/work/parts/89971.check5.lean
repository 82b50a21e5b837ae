theorem chE_51 : chA 5 pl5 4 4 = true := by decide +kernel
