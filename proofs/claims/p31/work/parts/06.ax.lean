theorem x_m0 : xmt0.all x_ckm = true := by decide +kernel
theorem x_m1 : xmt1.all x_ckm = true := by decide +kernel
theorem x_m2 : xmt2.all x_ckm = true := by decide +kernel
theorem x_m3 : xmt3.all x_ckm = true := by decide +kernel
theorem x_m4 : xmt4.all x_ckm = true := by decide +kernel
theorem x_m5 : xmt5.all x_ckm = true := by decide +kernel
theorem x_m6 : (xmt6.take 25).all x_ckm = true := by decide +kernel
theorem x_a0 : xmt0.all x_ckA = true := by decide +kernel
theorem x_a1 : xmt1.all x_ckA = true := by decide +kernel
theorem x_a2 : xmt2.all x_ckA = true := by decide +kernel
theorem x_a3 : xmt3.all x_ckA = true := by decide +kernel
theorem x_a4 : xmt4.all x_ckA = true := by decide +kernel
theorem x_a5 : xmt5.all x_ckA = true := by decide +kernel
theorem x_a6 : (xmt6.take 25).all x_ckA = true := by decide +kernel
theorem x_aL : (xmt6.drop 25).all x_ckA = true := by decide +kernel
