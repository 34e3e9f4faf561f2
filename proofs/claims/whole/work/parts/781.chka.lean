/-! ten swaps are enough: first half of the graphs -/
theorem chk_0 : chks 0 64 = true := by decide +kernel
theorem chk_1 : chks 64 64 = true := by decide +kernel
theorem chk_2 : chks 128 64 = true := by decide +kernel
theorem chk_3 : chks 192 64 = true := by decide +kernel
theorem chk_4 : chks 256 64 = true := by decide +kernel
theorem chk_5 : chks 320 64 = true := by decide +kernel
theorem chk_6 : chks 384 64 = true := by decide +kernel
theorem chk_7 : chks 448 64 = true := by decide +kernel
