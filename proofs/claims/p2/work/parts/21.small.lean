/-! THE CLASS: its small methods -/
theorem x_bT {c : Prop} [Decidable c] {h : xH} (hc : c) : ((some (.inl 1), h) : Option xV × xH) = (some (.inl (x_b c)), h) := by
  unfold x_b
  rw [if_pos hc]
theorem x_bF {c : Prop} [Decidable c] {h : xH} (hc : ¬ c) : ((some (.inl 0), h) : Option xV × xH) = (some (.inl (x_b c)), h) := by
  unfold x_b
  rw [if_neg hc]
theorem x_vE {v w : Int} {h : xH} (e : v = w) : ((some (.inl v), h) : Option xV × xH) = (some (.inl w), h) := by rw [e]
theorem k_hasDock {z : Int} {P M : Int → Int → Int} (hS : x_Sh z P) {s : Int} (hs : 0 ≤ s ∧ s < 12) (d : Int) : x_Call 17 [.inr (3 + 7 * s), .inl (d)] (z, P, M) (some (.inl (x_b (0 ≤ d ∧ d < M (3 + 7 * s) 1 ∧ d < 12)))) (z, P, M) := by
  refine e_body (ls0 := [.inr (3 + 7 * s), .inl (d)]) xm17 rfl ?_
  refine e_iload (k := 0) (xi17 0) rfl ?_
  refine e_z_lt (k := 1) (xi17 1) (fun c0 => ?_) (fun c0 => ?_)
  · skip
    refine e_iconst (k := 11) (xi17 11) ?_
    refine e_zret (k := 12) (xi17 12) (by decide) ?_
    exact x_bF (by omega)
  · skip
    refine e_iload (k := 2) (xi17 2) rfl ?_
    refine e_aload (k := 3) (xi17 3) rfl (by omega) ?_
    refine e_getI (j := 1) (w := M (3 + 7 * s) 1) (k := 4) (xi17 4) (ok_st hS hs) rfl rfl ?_
    refine e_c_ge (k := 5) (xi17 5) (fun c1 => ?_) (fun c1 => ?_)
    · skip
      refine e_iconst (k := 11) (xi17 11) ?_
      refine e_zret (k := 12) (xi17 12) (by decide) ?_
      exact x_bF (by omega)
    · skip
      refine e_iload (k := 6) (xi17 6) rfl ?_
      refine e_iconst (k := 7) (xi17 7) ?_
      refine e_c_ge (k := 8) (xi17 8) (fun c2 => ?_) (fun c2 => ?_)
      · skip
        refine e_iconst (k := 11) (xi17 11) ?_
        refine e_zret (k := 12) (xi17 12) (by decide) ?_
        exact x_bF (by omega)
      · skip
        refine e_iconst (k := 9) (xi17 9) ?_
        refine e_goto (k := 10) (xi17 10) ?_
        refine e_zret (k := 12) (xi17 12) (by decide) ?_
        exact x_bT (by omega)
theorem k_otherAt {z : Int} {P M : Int → Int → Int} (hS : x_Sh z P) {s : Int} (hs : 0 ≤ s ∧ s < 12) {k : Int} (hk : 0 ≤ k ∧ k < M (3 + 7 * s) 5 ∧ k < 8) : x_Call 19 [.inr (3 + 7 * s), .inl (k)] (z, P, M) (some (.inl (M (6 + 7 * s) k))) (z, P, M) := by
  refine e_body (ls0 := [.inr (3 + 7 * s), .inl (k)]) xm19 rfl ?_
  refine e_iload (k := 0) (xi19 0) rfl ?_
  refine e_z_lt (k := 1) (xi19 1) (fun q => absurd q (by omega)) (fun c0 => ?_)
  refine e_iload (k := 2) (xi19 2) rfl ?_
  refine e_aload (k := 3) (xi19 3) rfl (by omega) ?_
  refine e_getI (j := 5) (w := M (3 + 7 * s) 5) (k := 4) (xi19 4) (ok_st hS hs) rfl rfl ?_
  refine e_c_ge (k := 5) (xi19 5) (fun q => absurd q (by omega)) (fun c1 => ?_)
  refine e_iload (k := 6) (xi19 6) rfl ?_
  refine e_iconst (k := 7) (xi19 7) ?_
  refine e_c_ge (k := 8) (xi19 8) (fun q => absurd q (by omega)) (fun c2 => ?_)
  refine e_aload (k := 9) (xi19 9) rfl (by omega) ?_
  refine e_getR (j := 4) (w := 6 + 7 * s) (k := 10) (xi19 10) (ok_st hS hs) rfl (sh_oth hS hs) ?_
  refine e_iload (k := 11) (xi19 11) rfl ?_
  refine e_iald (w := M (6 + 7 * s) k) (k := 12) (xi19 12) (ok_oth hS hs) (by rw [(ln_oth hs)]; omega) rfl ?_
  refine e_goto (k := 13) (xi19 13) ?_
  refine e_iret (k := 15) (xi19 15) ?_
  rfl
theorem k_lengthTo {z : Int} {P M : Int → Int → Int} (hS : x_Sh z P) {s : Int} (hs : 0 ≤ s ∧ s < 12) {j : Int} (hj : 0 ≤ j ∧ j < 12) : x_Call 20 [.inr (3 + 7 * s), .inl (j)] (z, P, M) (some (.inl (M (5 + 7 * s) j))) (z, P, M) := by
  refine e_body (ls0 := [.inr (3 + 7 * s), .inl (j)]) xm20 rfl ?_
  refine e_iload (k := 0) (xi20 0) rfl ?_
  refine e_z_lt (k := 1) (xi20 1) (fun q => absurd q (by omega)) (fun c0 => ?_)
  refine e_iload (k := 2) (xi20 2) rfl ?_
  refine e_iconst (k := 3) (xi20 3) ?_
  refine e_c_ge (k := 4) (xi20 4) (fun q => absurd q (by omega)) (fun c1 => ?_)
  refine e_aload (k := 5) (xi20 5) rfl (by omega) ?_
  refine e_getR (j := 3) (w := 5 + 7 * s) (k := 6) (xi20 6) (ok_st hS hs) rfl (sh_len hS hs) ?_
  refine e_iload (k := 7) (xi20 7) rfl ?_
  refine e_iald (w := M (5 + 7 * s) j) (k := 8) (xi20 8) (ok_len hS hs) (by rw [(ln_len hs)]; omega) rfl ?_
  refine e_goto (k := 9) (xi20 9) ?_
  refine e_iret (k := 11) (xi20 11) ?_
  rfl
theorem k_standT {z : Int} {P M : Int → Int → Int} (hS : x_Sh z P) {n : Int} (hn : 0 ≤ n ∧ n < M 1 1 ∧ n < 12) : x_Call 40 [.inr 1, .inl (n)] (z, P, M) (some (.inr (3 + 7 * n))) (z, P, M) := by
  refine e_body (ls0 := [.inr 1, .inl (n)]) xm40 rfl ?_
  refine e_iload (k := 0) (xi40 0) rfl ?_
  refine e_z_lt (k := 1) (xi40 1) (fun q => absurd q (by omega)) (fun c0 => ?_)
  refine e_iload (k := 2) (xi40 2) rfl ?_
  refine e_aload (k := 3) (xi40 3) rfl (by decide) ?_
  refine e_getI (j := 1) (w := M 1 1) (k := 4) (xi40 4) (ok_town hS) rfl rfl ?_
  refine e_c_ge (k := 5) (xi40 5) (fun q => absurd q (by omega)) (fun c1 => ?_)
  refine e_iload (k := 6) (xi40 6) rfl ?_
  refine e_iconst (k := 7) (xi40 7) ?_
  refine e_c_ge (k := 8) (xi40 8) (fun q => absurd q (by omega)) (fun c2 => ?_)
  refine e_aload (k := 9) (xi40 9) rfl (by decide) ?_
  refine e_getR (j := 0) (w := 2) (k := 10) (xi40 10) (ok_town hS) rfl (sh_stands hS) ?_
  refine e_iload (k := 11) (xi40 11) rfl ?_
  refine e_aald (w := 3 + 7 * n) (k := 12) (xi40 12) (x_ok4 (ok_stands hS) (by decide)) (by rw [ln_stands]; omega) (sh_st hS (show 0 ≤ n ∧ n < 12 by omega)) ?_
  refine e_goto (k := 13) (xi40 13) ?_
  refine e_aret (k := 15) (xi40 15) (by omega) ?_
  rfl
