theorem pl_c2 : pl_cx 7 (pl_C 2) [3, 0, 1, 2, 4, 5, 6] = true := by decide +kernel
theorem pl_c3 : pl_cx 7 (pl_C 3) [4, 0, 1, 2, 3, 5, 6] = true := by decide +kernel
theorem pl_c4 : pl_cx 7 (pl_C 4) [5, 0, 1, 2, 3, 4, 6] = true := by decide +kernel
