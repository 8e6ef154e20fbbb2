theorem pl_ch6 : (List.range 7).all (fun n => pl_ch n (pl_pm n n 0)) = true := by decide +kernel
theorem pl_ch7 : pl_ch 7 (pl_pm 7 7 0) = true := by decide +kernel
theorem pl_chain {n : Nat} (h : n < 8) : pl_ch n (pl_pm n n 0) = true := by
  by_cases q : n = 7
  · rw [q]; exact pl_ch7
  · exact List.all_eq_true.1 pl_ch6 n (List.mem_range.2 (by omega))
