theorem pl_c5 : pl_cx 7 (pl_C 5) [6, 0, 1, 2, 3, 4, 5] = true := by decide +kernel
theorem pl_c6 : pl_ch 7 (pl_C 6) = true := by decide +kernel
theorem pl_ch7 : pl_ch 7 (pl_pm 7 7 0) = true := by
  rw [pl_pm7, List.append_nil]
  exact pl_cx_to pl_c0 (by decide +kernel) (pl_cx_to pl_c1 (by decide +kernel) (pl_cx_to pl_c2 (by decide +kernel) (pl_cx_to pl_c3 (by decide +kernel) (pl_cx_to pl_c4 (by decide +kernel) (pl_cx_to pl_c5 (by decide +kernel) pl_c6)))))
theorem pl_chain {n : Nat} (h : n < 8) : pl_ch n (pl_pm n n 0) = true := by
  by_cases q : n = 7
  · rw [q]; exact pl_ch7
  · exact List.all_eq_true.1 pl_ch6 n (List.mem_range.2 (by omega))
