/-! ten swaps are enough: second half -/
theorem chk_8 : chks 512 64 = true := by decide +kernel
theorem chk_9 : chks 576 64 = true := by decide +kernel
theorem chk_10 : chks 640 64 = true := by decide +kernel
theorem chk_11 : chks 704 64 = true := by decide +kernel
theorem chk_12 : chks 768 64 = true := by decide +kernel
theorem chk_13 : chks 832 64 = true := by decide +kernel
theorem chk_14 : chks 896 64 = true := by decide +kernel
theorem chk_15 : chks 960 64 = true := by decide +kernel
