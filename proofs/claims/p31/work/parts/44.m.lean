/-! THE MODEL'S METHODS -/
theorem y_mul_in {f l : Int} (hf : f = 0 ∨ f = 2 ∨ f = 3) (hl : 0 ≤ l ∧ l ≤ 999) : 0 ≤ f * l ∧ f * l ≤ 2997 := by
  rcases hf with rfl | rfl | rfl <;> omega
theorem k_isIn {z : Int} {P M : Int → Int → Int} (hS : x_Sh z P) (hT : y_TC M) (v : Int) (n : Int)   : x_Call 113 [.inl (v), .inl (n)] (z, P, M) (some (.inl (x_b (0 ≤ v ∧ v < n)))) (z, P, M) := by
  refine e_body (ls0 := [.inl (v), .inl (n)]) xm113 rfl ?_
  refine e_iload (k := 0) (xi113 0) rfl ?_
  refine e_z_lt (k := 1) (xi113 1) (fun c0 => ?_) (fun c0 => ?_)
  · skip
    refine e_iconst (k := 7) (xi113 7) ?_
    refine e_zret (k := 8) (xi113 8) (by first | decide | omega) ?_
    exact x_bF (by omega)
  · skip
    refine e_iload (k := 2) (xi113 2) rfl ?_
    refine e_iload (k := 3) (xi113 3) rfl ?_
    refine e_c_ge (k := 4) (xi113 4) (fun c1 => ?_) (fun c1 => ?_)
    · skip
      refine e_iconst (k := 7) (xi113 7) ?_
      refine e_zret (k := 8) (xi113 8) (by first | decide | omega) ?_
      exact x_bF (by omega)
    · skip
      refine e_iconst (k := 5) (xi113 5) ?_
      refine e_goto (k := 6) (xi113 6) ?_
      refine e_zret (k := 8) (xi113 8) (by first | decide | omega) ?_
      exact x_bT (by omega)
theorem k_isStand {z : Int} {P M : Int → Int → Int} (hS : x_Sh z P) (hT : y_TC M) (v : Int)   : x_Call 114 [.inr 162, .inl (v)] (z, P, M) (some (.inl (x_b (0 ≤ v ∧ v < M 163 0)))) (z, P, M) := by
  refine e_body (ls0 := [.inr 162, .inl (v)]) xm114 rfl ?_
  refine e_iload (k := 0) (xi114 0) rfl ?_
  refine e_aload (k := 1) (xi114 1) rfl (by decide) ?_
  refine e_getR (j := 0) (w := 163) (k := 2) (xi114 2) (ok_mo hS) rfl (sh_all hS) ?_
  refine e_iconst (k := 3) (xi114 3) ?_
  have t1 := ty_a0 hT
  refine e_iald (w := M 163 0) (k := 4) (xi114 4) (ok_all hS) (by rw [ln_all]; omega) rfl ?_
  refine e_call (k := 5) (v := some (.inl (x_b (0 ≤ v ∧ v < (M 163 0))))) (h1 := (z, P, M)) (c1 := 0) (c2 := 0) (rest := []) (as := [.inl (v), .inl (M 163 0)]) (xi114 5) (by decide) xm113 rfl ⟨rfl, Nat.le_of_ble_eq_true rfl, by decide⟩ (Or.inl rfl) (k_isIn hS hT v (M 163 0)  ) ?_
  refine e_zret (k := 6) (xi114 6) (x_b01) ?_
  exact x_vB (by omega)
theorem k_isWheel {z : Int} {P M : Int → Int → Int} (hS : x_Sh z P) (hT : y_TC M) (v : Int)   : x_Call 115 [.inr 162, .inl (v)] (z, P, M) (some (.inl (x_b (0 ≤ v ∧ v < M 163 1)))) (z, P, M) := by
  refine e_body (ls0 := [.inr 162, .inl (v)]) xm115 rfl ?_
  refine e_iload (k := 0) (xi115 0) rfl ?_
  refine e_aload (k := 1) (xi115 1) rfl (by decide) ?_
  refine e_getR (j := 0) (w := 163) (k := 2) (xi115 2) (ok_mo hS) rfl (sh_all hS) ?_
  refine e_iconst (k := 3) (xi115 3) ?_
  have t1 := ty_a1 hT
  refine e_iald (w := M 163 1) (k := 4) (xi115 4) (ok_all hS) (by rw [ln_all]; omega) rfl ?_
  refine e_call (k := 5) (v := some (.inl (x_b (0 ≤ v ∧ v < (M 163 1))))) (h1 := (z, P, M)) (c1 := 0) (c2 := 0) (rest := []) (as := [.inl (v), .inl (M 163 1)]) (xi115 5) (by decide) xm113 rfl ⟨rfl, Nat.le_of_ble_eq_true rfl, by decide⟩ (Or.inl rfl) (k_isIn hS hT v (M 163 1)  ) ?_
  refine e_zret (k := 6) (xi115 6) (x_b01) ?_
  exact x_vB (by omega)
theorem k_isCart {z : Int} {P M : Int → Int → Int} (hS : x_Sh z P) (hT : y_TC M) (v : Int)   : x_Call 116 [.inr 162, .inl (v)] (z, P, M) (some (.inl (x_b (0 ≤ v ∧ v < M 163 2)))) (z, P, M) := by
  refine e_body (ls0 := [.inr 162, .inl (v)]) xm116 rfl ?_
  refine e_iload (k := 0) (xi116 0) rfl ?_
  refine e_aload (k := 1) (xi116 1) rfl (by decide) ?_
  refine e_getR (j := 0) (w := 163) (k := 2) (xi116 2) (ok_mo hS) rfl (sh_all hS) ?_
  refine e_iconst (k := 3) (xi116 3) ?_
  have t1 := ty_a2 hT
  refine e_iald (w := M 163 2) (k := 4) (xi116 4) (ok_all hS) (by rw [ln_all]; omega) rfl ?_
  refine e_call (k := 5) (v := some (.inl (x_b (0 ≤ v ∧ v < (M 163 2))))) (h1 := (z, P, M)) (c1 := 0) (c2 := 0) (rest := []) (as := [.inl (v), .inl (M 163 2)]) (xi116 5) (by decide) xm113 rfl ⟨rfl, Nat.le_of_ble_eq_true rfl, by decide⟩ (Or.inl rfl) (k_isIn hS hT v (M 163 2)  ) ?_
  refine e_zret (k := 6) (xi116 6) (x_b01) ?_
  exact x_vB (by omega)
theorem k_mstandAt {z : Int} {P M : Int → Int → Int} (hS : x_Sh z P) (hT : y_TC M) (s : Int) (hs : -100 ≤ s ∧ s ≤ 100) : x_Call 117 [.inr 162, .inl (s)] (z, P, M) (some (.inl (10 + 80 * s))) (z, P, M) := by
  refine e_body (ls0 := [.inr 162, .inl (s)]) xm117 rfl ?_
  refine e_iconst (k := 0) (xi117 0) ?_
  refine e_iconst (k := 1) (xi117 1) ?_
  refine e_iload (k := 2) (xi117 2) rfl ?_
  refine e_imul (w := 80 * s) (k := 3) (xi117 3) (x_wn (by omega)) ?_
  refine e_iadd (w := 10 + 80 * s) (k := 4) (xi117 4) (x_wn (by omega)) ?_
  refine e_iret (k := 5) (xi117 5) ?_
  rfl
theorem k_mwagonAt {z : Int} {P M : Int → Int → Int} (hS : x_Sh z P) (hT : y_TC M) (c : Int) (hs : -100 ≤ c ∧ c ≤ 100) : x_Call 156 [.inr 162, .inl (c)] (z, P, M) (some (.inl (1594 + 12 * c))) (z, P, M) := by
  refine e_body (ls0 := [.inr 162, .inl (c)]) xm156 rfl ?_
  refine e_iconst (k := 0) (xi156 0) ?_
  refine e_iconst (k := 1) (xi156 1) ?_
  refine e_iload (k := 2) (xi156 2) rfl ?_
  refine e_imul (w := 12 * c) (k := 3) (xi156 3) (x_wn (by omega)) ?_
  refine e_iadd (w := 1594 + 12 * c) (k := 4) (xi156 4) (x_wn (by omega)) ?_
  refine e_iret (k := 5) (xi156 5) ?_
  rfl
theorem k_mdocks {z : Int} {P M : Int → Int → Int} (hS : x_Sh z P) (hT : y_TC M) (s : Int) (i : Int) (hs : 0 ≤ s ∧ s < 12) (hi : 10 + 80 * s = i) : x_Call 118 [.inr 162, .inl (s)] (z, P, M) (some (.inl (M 163 i))) (z, P, M) := by
  subst hi
  refine e_body (ls0 := [.inr 162, .inl (s)]) xm118 rfl ?_
  refine e_aload (k := 0) (xi118 0) rfl (by decide) ?_
  refine e_getR (j := 0) (w := 163) (k := 1) (xi118 1) (ok_mo hS) rfl (sh_all hS) ?_
  refine e_aload (k := 2) (xi118 2) rfl (by decide) ?_
  refine e_iload (k := 3) (xi118 3) rfl ?_
  refine e_call (k := 4) (v := some (.inl (10 + 80 * s))) (h1 := (z, P, M)) (c1 := 0) (c2 := 0) (rest := [.inr 163]) (as := [.inr 162, .inl (s)]) (xi118 4) (by decide) xm117 rfl ⟨rfl, Nat.le_of_ble_eq_true rfl, by decide⟩ (Or.inr (x_okt (ok_mo hS))) (k_mstandAt hS hT s (by omega)) ?_
  have t1 := ty_aD hT (i := 10 + 80 * s) (s := s) (by omega) (by omega)
  refine e_iald (w := M 163 (10 + 80 * s)) (k := 5) (xi118 5) (ok_all hS) (by rw [ln_all]; omega) rfl ?_
  refine e_iret (k := 6) (xi118 6) ?_
  rfl
theorem k_mdockAt {z : Int} {P M : Int → Int → Int} (hS : x_Sh z P) (hT : y_TC M) (s : Int) (d : Int) (hs : -100 ≤ s ∧ s ≤ 100) (hd : -100 ≤ d ∧ d ≤ 100) : x_Call 119 [.inr 162, .inl (s), .inl (d)] (z, P, M) (some (.inl (11 + 80 * s + d))) (z, P, M) := by
  refine e_body (ls0 := [.inr 162, .inl (s), .inl (d)]) xm119 rfl ?_
  refine e_aload (k := 0) (xi119 0) rfl (by decide) ?_
  refine e_iload (k := 1) (xi119 1) rfl ?_
  refine e_call (k := 2) (v := some (.inl (10 + 80 * s))) (h1 := (z, P, M)) (c1 := 0) (c2 := 0) (rest := []) (as := [.inr 162, .inl (s)]) (xi119 2) (by decide) xm117 rfl ⟨rfl, Nat.le_of_ble_eq_true rfl, by decide⟩ (Or.inr (x_okt (ok_mo hS))) (k_mstandAt hS hT s (by omega)) ?_
  refine e_iconst (k := 3) (xi119 3) ?_
  refine e_iadd (w := 11 + 80 * s) (k := 4) (xi119 4) (x_wn (by omega)) ?_
  refine e_iload (k := 5) (xi119 5) rfl ?_
  refine e_iadd (w := 11 + 80 * s + d) (k := 6) (xi119 6) (x_wn (by omega)) ?_
  refine e_iret (k := 7) (xi119 7) ?_
  rfl
theorem k_mfar {z : Int} {P M : Int → Int → Int} (hS : x_Sh z P) (hT : y_TC M) (a : Int) (b : Int) (i : Int) (ha : 0 ≤ a ∧ a < 12) (hb : 0 ≤ b ∧ b < 12) (hi : 970 + 12 * a + b = i) : x_Call 120 [.inr 162, .inl (a), .inl (b)] (z, P, M) (some (.inl (M 163 i))) (z, P, M) := by
  subst hi
  refine e_body (ls0 := [.inr 162, .inl (a), .inl (b)]) xm120 rfl ?_
  refine e_aload (k := 0) (xi120 0) rfl (by decide) ?_
  refine e_getR (j := 0) (w := 163) (k := 1) (xi120 1) (ok_mo hS) rfl (sh_all hS) ?_
  refine e_iconst (k := 2) (xi120 2) ?_
  refine e_iconst (k := 3) (xi120 3) ?_
  refine e_iload (k := 4) (xi120 4) rfl ?_
  refine e_imul (w := 12 * a) (k := 5) (xi120 5) (x_wn (by omega)) ?_
  refine e_iadd (w := 970 + 12 * a) (k := 6) (xi120 6) (x_wn (by omega)) ?_
  refine e_iload (k := 7) (xi120 7) rfl ?_
  refine e_iadd (w := 970 + 12 * a + b) (k := 8) (xi120 8) (x_wn (by omega)) ?_
  have t1 := ty_aL hT (i := 970 + 12 * a + b) (a := a) (b := b) (by omega) (by omega) (by omega)
  refine e_iald (w := M 163 (970 + 12 * a + b)) (k := 9) (xi120 9) (ok_all hS) (by rw [ln_all]; omega) rfl ?_
  refine e_iret (k := 10) (xi120 10) ?_
  rfl
theorem k_mof {z : Int} {P M : Int → Int → Int} (hS : x_Sh z P) (hT : y_TC M) (w : Int) (j : Int) (i : Int) (hw : 0 ≤ w ∧ w < 60) (hj : 0 ≤ j ∧ j < 8) (hi : 1114 + 8 * w + j = i) : x_Call 129 [.inr 162, .inl (w), .inl (j)] (z, P, M) (some (.inl (M 163 i))) (z, P, M) := by
  subst hi
  refine e_body (ls0 := [.inr 162, .inl (w), .inl (j)]) xm129 rfl ?_
  refine e_aload (k := 0) (xi129 0) rfl (by decide) ?_
  refine e_getR (j := 0) (w := 163) (k := 1) (xi129 1) (ok_mo hS) rfl (sh_all hS) ?_
  refine e_iconst (k := 2) (xi129 2) ?_
  refine e_iconst (k := 3) (xi129 3) ?_
  refine e_iload (k := 4) (xi129 4) rfl ?_
  refine e_imul (w := 8 * w) (k := 5) (xi129 5) (x_wn (by omega)) ?_
  refine e_iadd (w := 1114 + 8 * w) (k := 6) (xi129 6) (x_wn (by omega)) ?_
  refine e_iload (k := 7) (xi129 7) rfl ?_
  refine e_iadd (w := 1114 + 8 * w + j) (k := 8) (xi129 8) (x_wn (by omega)) ?_
  refine e_iald (w := M 163 (1114 + 8 * w + j)) (k := 9) (xi129 9) (ok_all hS) (by rw [ln_all]; omega) rfl ?_
  refine e_iret (k := 10) (xi129 10) ?_
  rfl
theorem k_msets {z : Int} {P M : Int → Int → Int} (hS : x_Sh z P) (w j v i : Int) (hw : 0 ≤ w ∧ w < 60) (hj : 0 ≤ j ∧ j < 8) (hi : 1114 + 8 * w + j = i) : x_Call 130 [.inr 162, .inl (w), .inl (j), .inl (v)] (z, P, M) none (z, P, x_up M 163 i v) := by
  subst hi
  refine e_body (ls0 := [.inr 162, .inl (w), .inl (j), .inl (v)]) xm130 rfl ?_
  refine e_aload (k := 0) (xi130 0) rfl (by decide) ?_
  refine e_getR (j := 0) (w := 163) (k := 1) (xi130 1) (ok_mo hS) rfl (sh_all hS) ?_
  refine e_iconst (k := 2) (xi130 2) ?_
  refine e_iconst (k := 3) (xi130 3) ?_
  refine e_iload (k := 4) (xi130 4) rfl ?_
  refine e_imul (w := 8 * w) (k := 5) (xi130 5) (x_wn (by omega)) ?_
  refine e_iadd (w := 1114 + 8 * w) (k := 6) (xi130 6) (x_wn (by omega)) ?_
  refine e_iload (k := 7) (xi130 7) rfl ?_
  refine e_iadd (w := 1114 + 8 * w + j) (k := 8) (xi130 8) (x_wn (by omega)) ?_
  refine e_iload (k := 9) (xi130 9) rfl ?_
  refine e_iast (k := 10) (xi130 10) (ok_all hS) (by rw [ln_all]; omega) ?_
  refine e_vret (k := 11) (xi130 11) ?_
  rfl
theorem k_misDock {z : Int} {P M : Int → Int → Int} (hS : x_Sh z P) (hT : y_TC M) (s : Int) (d : Int)   : x_Call 125 [.inr 162, .inl (s), .inl (d)] (z, P, M) (some (.inl (x_b ((0 ≤ s ∧ s < M 163 0) ∧ 0 ≤ d ∧ d < M 163 (10 + 80 * s))))) (z, P, M) := by
  refine e_body (ls0 := [.inr 162, .inl (s), .inl (d)]) xm125 rfl ?_
  refine e_aload (k := 0) (xi125 0) rfl (by decide) ?_
  refine e_iload (k := 1) (xi125 1) rfl ?_
  have t1 := ty_a0 hT
  refine e_call (k := 2) (v := some (.inl (x_b (0 ≤ s ∧ s < M 163 0)))) (h1 := (z, P, M)) (c1 := 0) (c2 := 0) (rest := []) (as := [.inr 162, .inl (s)]) (xi125 2) (by decide) xm114 rfl ⟨rfl, Nat.le_of_ble_eq_true rfl, by decide⟩ (Or.inr (x_okt (ok_mo hS))) (k_isStand hS hT s  ) ?_
  refine e_b_eq (k := 3) (xi125 3) (fun c0 => ?_) (fun c0 => ?_)
  · skip
    refine e_iload (k := 4) (xi125 4) rfl ?_
    refine e_aload (k := 5) (xi125 5) rfl (by decide) ?_
    refine e_iload (k := 6) (xi125 6) rfl ?_
    have t2 := ty_aD hT (i := 10 + 80 * s) (s := s) (by omega) (by omega)
    refine e_call (k := 7) (v := some (.inl (M 163 (10 + 80 * s)))) (h1 := (z, P, M)) (c1 := 0) (c2 := 0) (rest := [.inl (d)]) (as := [.inr 162, .inl (s)]) (xi125 7) (by decide) xm118 rfl ⟨rfl, Nat.le_of_ble_eq_true rfl, by decide⟩ (Or.inr (x_okt (ok_mo hS))) (k_mdocks hS hT s (10 + 80 * s) (by omega) (by omega)) ?_
    refine e_call (k := 8) (v := some (.inl (x_b (0 ≤ d ∧ d < (M 163 (10 + 80 * s)))))) (h1 := (z, P, M)) (c1 := 0) (c2 := 0) (rest := []) (as := [.inl (d), .inl (M 163 (10 + 80 * s))]) (xi125 8) (by decide) xm113 rfl ⟨rfl, Nat.le_of_ble_eq_true rfl, by decide⟩ (Or.inl rfl) (k_isIn hS hT d (M 163 (10 + 80 * s))  ) ?_
    refine e_b_eq (k := 9) (xi125 9) (fun c1 => ?_) (fun c1 => ?_)
    · skip
      refine e_iconst (k := 10) (xi125 10) ?_
      refine e_goto (k := 11) (xi125 11) ?_
      refine e_zret (k := 13) (xi125 13) (by first | decide | omega) ?_
      exact x_bT (by omega)
    · skip
      refine e_iconst (k := 12) (xi125 12) ?_
      refine e_zret (k := 13) (xi125 13) (by first | decide | omega) ?_
      exact x_bF (by omega)
  · skip
    refine e_iconst (k := 12) (xi125 12) ?_
    refine e_zret (k := 13) (xi125 13) (by first | decide | omega) ?_
    exact x_bF (by omega)
theorem k_misFree {z : Int} {P M : Int → Int → Int} (hS : x_Sh z P) (hT : y_TC M) (s : Int) (d : Int) (i : Int) (hi : 11 + 80 * s + d = i) : x_Call 133 [.inr 162, .inl (s), .inl (d)] (z, P, M) (some (.inl (x_b (((0 ≤ s ∧ s < M 163 0) ∧ 0 ≤ d ∧ d < M 163 (10 + 80 * s)) ∧ M 163 i = -1)))) (z, P, M) := by
  subst hi
  refine e_body (ls0 := [.inr 162, .inl (s), .inl (d)]) xm133 rfl ?_
  refine e_aload (k := 0) (xi133 0) rfl (by decide) ?_
  refine e_iload (k := 1) (xi133 1) rfl ?_
  refine e_iload (k := 2) (xi133 2) rfl ?_
  have t1 := ty_a0 hT
  refine e_call (k := 3) (v := some (.inl (x_b ((0 ≤ s ∧ s < M 163 0) ∧ 0 ≤ d ∧ d < M 163 (10 + 80 * s))))) (h1 := (z, P, M)) (c1 := 0) (c2 := 0) (rest := []) (as := [.inr 162, .inl (s), .inl (d)]) (xi133 3) (by decide) xm125 rfl ⟨rfl, Nat.le_of_ble_eq_true rfl, by decide⟩ (Or.inr (x_okt (ok_mo hS))) (k_misDock hS hT s d  ) ?_
  refine e_b_eq (k := 4) (xi133 4) (fun c0 => ?_) (fun c0 => ?_)
  · skip
    have t2 := ty_aD hT (i := 10 + 80 * s) (s := s) (by omega) (by omega)
    refine e_aload (k := 5) (xi133 5) rfl (by decide) ?_
    refine e_getR (j := 0) (w := 163) (k := 6) (xi133 6) (ok_mo hS) rfl (sh_all hS) ?_
    refine e_aload (k := 7) (xi133 7) rfl (by decide) ?_
    refine e_iload (k := 8) (xi133 8) rfl ?_
    refine e_iload (k := 9) (xi133 9) rfl ?_
    refine e_call (k := 10) (v := some (.inl (11 + 80 * s + d))) (h1 := (z, P, M)) (c1 := 0) (c2 := 0) (rest := [.inr 163]) (as := [.inr 162, .inl (s), .inl (d)]) (xi133 10) (by decide) xm119 rfl ⟨rfl, Nat.le_of_ble_eq_true rfl, by decide⟩ (Or.inr (x_okt (ok_mo hS))) (k_mdockAt hS hT s d (by omega) (by omega)) ?_
    have t3 := ty_aC hT (i := 11 + 80 * s + d) (s := s) (d := d) (by omega) (by omega) (by omega)
    refine e_iald (w := M 163 (11 + 80 * s + d)) (k := 11) (xi133 11) (ok_all hS) (by rw [ln_all]; omega) rfl ?_
    refine e_iconst (k := 12) (xi133 12) ?_
    refine e_c_ne (k := 13) (xi133 13) (fun c1 => ?_) (fun c1 => ?_)
    · skip
      refine e_iconst (k := 16) (xi133 16) ?_
      refine e_zret (k := 17) (xi133 17) (by first | decide | omega) ?_
      exact x_bF (by omega)
    · skip
      refine e_iconst (k := 14) (xi133 14) ?_
      refine e_goto (k := 15) (xi133 15) ?_
      refine e_zret (k := 17) (xi133 17) (by first | decide | omega) ?_
      exact x_bT (by omega)
  · skip
    refine e_iconst (k := 16) (xi133 16) ?_
    refine e_zret (k := 17) (xi133 17) (by first | decide | omega) ?_
    exact x_bF (by omega)
theorem k_mfits {z : Int} {P M : Int → Int → Int} (hS : x_Sh z P) (hT : y_TC M) (kd : Int) (s : Int) (d : Int) (i j : Int) (hi : 11 + 80 * s + d = i) (hj : 12 + 80 * s + d = j) : x_Call 134 [.inr 162, .inl (kd), .inl (s), .inl (d)] (z, P, M) (some (.inl (x_b ((((0 ≤ s ∧ s < M 163 0) ∧ 0 ≤ d ∧ d < M 163 (10 + 80 * s)) ∧ M 163 i = -1) ∧ (kd = 2 → 1 + d < M 163 (10 + 80 * s) ∧ M 163 j = -1))))) (z, P, M) := by
  subst hi hj
  refine e_body (ls0 := [.inr 162, .inl (kd), .inl (s), .inl (d)]) xm134 rfl ?_
  refine e_aload (k := 0) (xi134 0) rfl (by decide) ?_
  refine e_iload (k := 1) (xi134 1) rfl ?_
  refine e_iload (k := 2) (xi134 2) rfl ?_
  have t1 := ty_a0 hT
  refine e_call (k := 3) (v := some (.inl (x_b (((0 ≤ s ∧ s < M 163 0) ∧ 0 ≤ d ∧ d < M 163 (10 + 80 * s)) ∧ M 163 (11 + 80 * s + d) = -1)))) (h1 := (z, P, M)) (c1 := 0) (c2 := 0) (rest := []) (as := [.inr 162, .inl (s), .inl (d)]) (xi134 3) (by decide) xm133 rfl ⟨rfl, Nat.le_of_ble_eq_true rfl, by decide⟩ (Or.inr (x_okt (ok_mo hS))) (k_misFree hS hT s d (11 + 80 * s + d) (by omega)) ?_
  refine e_b_eq (k := 4) (xi134 4) (fun c0 => ?_) (fun c0 => ?_)
  · skip
    have t2 := ty_aD hT (i := 10 + 80 * s) (s := s) (by omega) (by omega)
    refine e_iload (k := 5) (xi134 5) rfl ?_
    refine e_iconst (k := 6) (xi134 6) ?_
    refine e_c_ne (k := 7) (xi134 7) (fun c1 => ?_) (fun c1 => ?_)
    · skip
      refine e_iconst (k := 15) (xi134 15) ?_
      refine e_goto (k := 16) (xi134 16) ?_
      refine e_zret (k := 18) (xi134 18) (by first | decide | omega) ?_
      exact x_bT (by omega)
    · skip
      refine e_aload (k := 8) (xi134 8) rfl (by decide) ?_
      refine e_iload (k := 9) (xi134 9) rfl ?_
      refine e_iload (k := 10) (xi134 10) rfl ?_
      refine e_iconst (k := 11) (xi134 11) ?_
      refine e_iadd (w := 1 + d) (k := 12) (xi134 12) (x_wn (by omega)) ?_
      refine e_call (k := 13) (v := some (.inl (x_b (((0 ≤ s ∧ s < M 163 0) ∧ 0 ≤ 1 + d ∧ 1 + d < M 163 (10 + 80 * s)) ∧ M 163 (12 + 80 * s + d) = -1)))) (h1 := (z, P, M)) (c1 := 0) (c2 := 0) (rest := []) (as := [.inr 162, .inl (s), .inl (1 + d)]) (xi134 13) (by decide) xm133 rfl ⟨rfl, Nat.le_of_ble_eq_true rfl, by decide⟩ (Or.inr (x_okt (ok_mo hS))) (k_misFree hS hT s (1 + d) (12 + 80 * s + d) (by omega)) ?_
      refine e_b_eq (k := 14) (xi134 14) (fun c2 => ?_) (fun c2 => ?_)
      · skip
        refine e_iconst (k := 15) (xi134 15) ?_
        refine e_goto (k := 16) (xi134 16) ?_
        refine e_zret (k := 18) (xi134 18) (by first | decide | omega) ?_
        exact x_bT (by omega)
      · skip
        refine e_iconst (k := 17) (xi134 17) ?_
        refine e_zret (k := 18) (xi134 18) (by first | decide | omega) ?_
        exact x_bF (by omega)
  · skip
    refine e_iconst (k := 17) (xi134 17) ?_
    refine e_zret (k := 18) (xi134 18) (by first | decide | omega) ?_
    exact x_bF (by omega)
def w_m_room_a (kd s : Int) (M : Int → Int → Int) : Nat → Int → Int
  | 0, d => 0
  | k + 1, d => if M 163 (10 + 80 * s) ≤ d then (-1) else if (((0 ≤ s ∧ s < M 163 0) ∧ 0 ≤ d ∧ d < M 163 (10 + 80 * s)) ∧ M 163 (11 + 80 * s + d) = -1) ∧ (kd = 2 → 1 + d < M 163 (10 + 80 * s) ∧ M 163 (12 + 80 * s + d) = -1) then d else w_m_room_a kd s M k (1 + d)
theorem kw_m_room_a {z : Int} {P M : Int → Int → Int} (hS : x_Sh z P) (hT : y_TC M) (kd : Int) (s : Int)   (hs : 0 ≤ s ∧ s < 12) : ∀ k : Nat, ∀ d : Int, (0 ≤ d ∧ d ≤ 12) → 12 - d < (k : Int) → x_Ev 135 2 [.inr 162, .inl (kd), .inl (s), .inl (d)] [] (0, 0) (z, P, M) (fun q => q = (some (.inl (w_m_room_a kd s M k d)), (z, P, M)) ∧ (fun v => (-1 ≤ v ∧ v ≤ 11) ∧ (kd = 2 → v ≤ 10)) (w_m_room_a kd s M k d)) := by
  have kd0 := ty_aD hT (i := 10 + 80 * s) (s := s) (by omega) (by omega)
  intro k
  induction k with
  | zero => intro d hi hm; omega
  | succ k ih =>
    intro d hi hm
    refine e_iload (k := 2) (xi135 2) rfl ?_
    refine e_aload (k := 3) (xi135 3) rfl (by decide) ?_
    refine e_iload (k := 4) (xi135 4) rfl ?_
    have t1 := ty_aD hT (i := 10 + 80 * s) (s := s) (by omega) (by omega)
    refine e_call (k := 5) (v := some (.inl (M 163 (10 + 80 * s)))) (h1 := (z, P, M)) (c1 := 0) (c2 := 0) (rest := [.inl (d)]) (as := [.inr 162, .inl (s)]) (xi135 5) (by decide) xm118 rfl ⟨rfl, Nat.le_of_ble_eq_true rfl, by decide⟩ (Or.inr (x_okt (ok_mo hS))) (k_mdocks hS hT s (10 + 80 * s) (by omega) (by omega)) ?_
    refine e_c_ge (k := 6) (xi135 6) (fun c0 => ?_) (fun c0 => ?_)
    · skip
      refine e_iconst (k := 17) (xi135 17) ?_
      refine e_iret (k := 18) (xi135 18) ?_
      exact y_fV (Q := fun v => (-1 ≤ v ∧ v ≤ 11) ∧ (kd = 2 → v ≤ 10)) (show w_m_room_a kd s M (k + 1) d = (-1) from by rw [w_m_room_a, if_pos c0]) (by omega)
    · skip
      refine e_aload (k := 7) (xi135 7) rfl (by decide) ?_
      refine e_iload (k := 8) (xi135 8) rfl ?_
      refine e_iload (k := 9) (xi135 9) rfl ?_
      refine e_iload (k := 10) (xi135 10) rfl ?_
      have t2 := ty_a0 hT
      refine e_call (k := 11) (v := some (.inl (x_b ((((0 ≤ s ∧ s < M 163 0) ∧ 0 ≤ d ∧ d < M 163 (10 + 80 * s)) ∧ M 163 (11 + 80 * s + d) = -1) ∧ (kd = 2 → 1 + d < M 163 (10 + 80 * s) ∧ M 163 (12 + 80 * s + d) = -1))))) (h1 := (z, P, M)) (c1 := 0) (c2 := 0) (rest := []) (as := [.inr 162, .inl (kd), .inl (s), .inl (d)]) (xi135 11) (by decide) xm134 rfl ⟨rfl, Nat.le_of_ble_eq_true rfl, by decide⟩ (Or.inr (x_okt (ok_mo hS))) (k_mfits hS hT kd s d (11 + 80 * s + d) (12 + 80 * s + d) (by omega) (by omega)) ?_
      refine e_b_eq (k := 12) (xi135 12) (fun c1 => ?_) (fun c1 => ?_)
      · skip
        refine e_iload (k := 13) (xi135 13) rfl ?_
        refine e_iret (k := 14) (xi135 14) ?_
        exact y_fV (Q := fun v => (-1 ≤ v ∧ v ≤ 11) ∧ (kd = 2 → v ≤ 10)) (show w_m_room_a kd s M (k + 1) d = d from by rw [w_m_room_a, if_neg c0, if_pos c1]) (by omega)
      · skip
        refine e_iinc (w := 1 + d) (k := 15) (xi135 15) rfl (x_wn (by omega)) ?_
        show x_Ev 135 16 [.inr 162, .inl (kd), .inl (s), .inl (1 + d)] [] (0, 0) (z, P, M) _
        refine e_goto (k := 16) (xi135 16) ?_
        rw [(show w_m_room_a kd s M (k + 1) d = w_m_room_a kd s M k (1 + d) from by rw [w_m_room_a, if_neg c0, if_neg c1])]
        exact ih (1 + d) (by omega) (by omega)
def v_m_room (kd s : Int) (M : Int → Int → Int) : Int := w_m_room_a kd s M 13 0
theorem k_m_room {z : Int} {P M : Int → Int → Int} (hS : x_Sh z P) (hT : y_TC M) (kd : Int) (s : Int)  (hs : 0 ≤ s ∧ s < 12) : x_CallR 135 [.inr 162, .inl (kd), .inl (s)] (z, P, M) (fun q => q = (some (.inl (v_m_room kd s M)), (z, P, M)) ∧ (fun v => (-1 ≤ v ∧ v ≤ 11) ∧ (kd = 2 → v ≤ 10)) (v_m_room kd s M)) := by
  refine e_body (ls0 := [.inr 162, .inl (kd), .inl (s), x_un]) xm135 rfl ?_
  refine e_iconst (k := 0) (xi135 0) ?_
  refine e_istore (k := 1) (xi135 1) (Nat.le_of_ble_eq_true rfl) ?_
  show x_Ev 135 2 [.inr 162, .inl (kd), .inl (s), .inl 0] [] (0, 0) (z, P, M) _
  refine x_ev_mono (kw_m_room_a hS hT kd s    (by omega) 13 0 (by omega) (by omega)) ?_
  rintro _ ⟨e1, q3⟩
  cases e1
  exact y_fV (Q := fun v => (-1 ≤ v ∧ v ≤ 11) ∧ (kd = 2 → v ≤ 10)) (show v_m_room kd s M = w_m_room_a kd s M 13 0 from rfl) (by omega)
def l_m_cntD_a (s x : Int) (M : Int → Int → Int) : Nat → Int → Int → Int × Int
  | 0, n, d => (n, d)
  | k + 1, n, d => if M 163 (10 + 80 * s) ≤ d then (n, d) else if ¬ x = (-1) then (if M 163 (11 + 80 * s + d) = (-2) then l_m_cntD_a s x M k n (1 + d) else l_m_cntD_a s x M k (1 + n) (1 + d)) else if ¬ M 163 (11 + 80 * s + d) = (-1) then l_m_cntD_a s x M k n (1 + d) else l_m_cntD_a s x M k (1 + n) (1 + d)
theorem kl_m_cntD_a {z : Int} {P M : Int → Int → Int} {r : Option xV × xH → Prop} (hS : x_Sh z P) (hT : y_TC M) (s : Int) (x : Int)   (hs : 0 ≤ s ∧ s < 12) : ∀ k : Nat, ∀ x5 : xV, ∀ n : Int, ∀ d : Int, (0 ≤ n ∧ n ≤ d ∧ d ≤ 12) → 12 - d < (k : Int) → (∀ x5 : xV, 0 ≤ ((l_m_cntD_a s x M k n d).1) ∧ ((l_m_cntD_a s x M k n d).1) ≤ 12 → x_Ev 128 38 [.inr 162, .inl (s), .inl (x), .inl ((l_m_cntD_a s x M k n d).1), .inl ((l_m_cntD_a s x M k n d).2), x5] [] (0, 0) (z, P, M) r) → x_Ev 128 4 [.inr 162, .inl (s), .inl (x), .inl (n), .inl (d), x5] [] (0, 0) (z, P, M) r := by
  have kd0 := ty_aD hT (i := 10 + 80 * s) (s := s) (by omega) (by omega)
  intro k
  induction k with
  | zero => intro x5 n d hi hm; omega
  | succ k ih =>
    intro x5 n d hi hm kk
    refine e_iload (k := 4) (xi128 4) rfl ?_
    refine e_aload (k := 5) (xi128 5) rfl (by decide) ?_
    refine e_iload (k := 6) (xi128 6) rfl ?_
    have t1 := ty_aD hT (i := 10 + 80 * s) (s := s) (by omega) (by omega)
    refine e_call (k := 7) (v := some (.inl (M 163 (10 + 80 * s)))) (h1 := (z, P, M)) (c1 := 0) (c2 := 0) (rest := [.inl (d)]) (as := [.inr 162, .inl (s)]) (xi128 7) (by decide) xm118 rfl ⟨rfl, Nat.le_of_ble_eq_true rfl, by decide⟩ (Or.inr (x_okt (ok_mo hS))) (k_mdocks hS hT s (10 + 80 * s) (by omega) (by omega)) ?_
    refine e_c_ge (k := 8) (xi128 8) (fun c0 => ?_) (fun c0 => ?_)
    · skip
      rw [(show l_m_cntD_a s x M (k + 1) n d = (n, d) from by rw [l_m_cntD_a, if_pos c0])] at kk
      try dsimp only at kk
      exact kk _ (by first | exact trivial | omega)
    · skip
      refine e_aload (k := 9) (xi128 9) rfl (by decide) ?_
      refine e_getR (j := 0) (w := 163) (k := 10) (xi128 10) (ok_mo hS) rfl (sh_all hS) ?_
      refine e_aload (k := 11) (xi128 11) rfl (by decide) ?_
      refine e_iload (k := 12) (xi128 12) rfl ?_
      refine e_iload (k := 13) (xi128 13) rfl ?_
      refine e_call (k := 14) (v := some (.inl (11 + 80 * s + d))) (h1 := (z, P, M)) (c1 := 0) (c2 := 0) (rest := [.inr 163]) (as := [.inr 162, .inl (s), .inl (d)]) (xi128 14) (by decide) xm119 rfl ⟨rfl, Nat.le_of_ble_eq_true rfl, by decide⟩ (Or.inr (x_okt (ok_mo hS))) (k_mdockAt hS hT s d (by omega) (by omega)) ?_
      have t2 := ty_aC hT (i := 11 + 80 * s + d) (s := s) (d := d) (by omega) (by omega) (by omega)
      refine e_iald (w := M 163 (11 + 80 * s + d)) (k := 15) (xi128 15) (ok_all hS) (by rw [ln_all]; omega) rfl ?_
      refine e_istore (k := 16) (xi128 16) (Nat.le_of_ble_eq_true rfl) ?_
      show x_Ev 128 17 [.inr 162, .inl (s), .inl (x), .inl (n), .inl (d), .inl (M 163 (11 + 80 * s + d))] [] (0, 0) (z, P, M) _
      refine e_iload (k := 17) (xi128 17) rfl ?_
      refine e_iload (k := 18) (xi128 18) rfl ?_
      refine e_iconst (k := 19) (xi128 19) ?_
      refine e_c_ne (k := 20) (xi128 20) (fun c1 => ?_) (fun c1 => ?_)
      · skip
        refine e_iload (k := 28) (xi128 28) rfl ?_
        refine e_iconst (k := 29) (xi128 29) ?_
        refine e_c_eq (k := 30) (xi128 30) (fun c2 => ?_) (fun c2 => ?_)
        · skip
          refine e_iconst (k := 33) (xi128 33) ?_
          refine e_iadd (w := n) (k := 34) (xi128 34) (x_wn (by omega)) ?_
          refine e_istore (k := 35) (xi128 35) (Nat.le_of_ble_eq_true rfl) ?_
          show x_Ev 128 36 [.inr 162, .inl (s), .inl (x), .inl (n), .inl (d), .inl (M 163 (11 + 80 * s + d))] [] (0, 0) (z, P, M) _
          refine e_iinc (w := 1 + d) (k := 36) (xi128 36) rfl (x_wn (by omega)) ?_
          show x_Ev 128 37 [.inr 162, .inl (s), .inl (x), .inl (n), .inl (1 + d), .inl (M 163 (11 + 80 * s + d))] [] (0, 0) (z, P, M) _
          refine e_goto (k := 37) (xi128 37) ?_
          rw [(show l_m_cntD_a s x M (k + 1) n d = l_m_cntD_a s x M k n (1 + d) from by rw [l_m_cntD_a, if_neg c0, if_pos c1, if_pos c2])] at kk
          exact ih _ n (1 + d) (by omega) (by omega) kk
        · skip
          refine e_iconst (k := 31) (xi128 31) ?_
          refine e_goto (k := 32) (xi128 32) ?_
          refine e_iadd (w := 1 + n) (k := 34) (xi128 34) (x_wn (by omega)) ?_
          refine e_istore (k := 35) (xi128 35) (Nat.le_of_ble_eq_true rfl) ?_
          show x_Ev 128 36 [.inr 162, .inl (s), .inl (x), .inl (1 + n), .inl (d), .inl (M 163 (11 + 80 * s + d))] [] (0, 0) (z, P, M) _
          refine e_iinc (w := 1 + d) (k := 36) (xi128 36) rfl (x_wn (by omega)) ?_
          show x_Ev 128 37 [.inr 162, .inl (s), .inl (x), .inl (1 + n), .inl (1 + d), .inl (M 163 (11 + 80 * s + d))] [] (0, 0) (z, P, M) _
          refine e_goto (k := 37) (xi128 37) ?_
          rw [(show l_m_cntD_a s x M (k + 1) n d = l_m_cntD_a s x M k (1 + n) (1 + d) from by rw [l_m_cntD_a, if_neg c0, if_pos c1, if_neg c2])] at kk
          exact ih _ (1 + n) (1 + d) (by omega) (by omega) kk
      · skip
        refine e_iload (k := 21) (xi128 21) rfl ?_
        refine e_iconst (k := 22) (xi128 22) ?_
        refine e_c_ne (k := 23) (xi128 23) (fun c3 => ?_) (fun c3 => ?_)
        · skip
          refine e_iconst (k := 26) (xi128 26) ?_
          refine e_goto (k := 27) (xi128 27) ?_
          refine e_iadd (w := n) (k := 34) (xi128 34) (x_wn (by omega)) ?_
          refine e_istore (k := 35) (xi128 35) (Nat.le_of_ble_eq_true rfl) ?_
          show x_Ev 128 36 [.inr 162, .inl (s), .inl (x), .inl (n), .inl (d), .inl (M 163 (11 + 80 * s + d))] [] (0, 0) (z, P, M) _
          refine e_iinc (w := 1 + d) (k := 36) (xi128 36) rfl (x_wn (by omega)) ?_
          show x_Ev 128 37 [.inr 162, .inl (s), .inl (x), .inl (n), .inl (1 + d), .inl (M 163 (11 + 80 * s + d))] [] (0, 0) (z, P, M) _
          refine e_goto (k := 37) (xi128 37) ?_
          rw [(show l_m_cntD_a s x M (k + 1) n d = l_m_cntD_a s x M k n (1 + d) from by rw [l_m_cntD_a, if_neg c0, if_neg c1, if_pos c3])] at kk
          exact ih _ n (1 + d) (by omega) (by omega) kk
        · skip
          refine e_iconst (k := 24) (xi128 24) ?_
          refine e_goto (k := 25) (xi128 25) ?_
          refine e_iadd (w := 1 + n) (k := 34) (xi128 34) (x_wn (by omega)) ?_
          refine e_istore (k := 35) (xi128 35) (Nat.le_of_ble_eq_true rfl) ?_
          show x_Ev 128 36 [.inr 162, .inl (s), .inl (x), .inl (1 + n), .inl (d), .inl (M 163 (11 + 80 * s + d))] [] (0, 0) (z, P, M) _
          refine e_iinc (w := 1 + d) (k := 36) (xi128 36) rfl (x_wn (by omega)) ?_
          show x_Ev 128 37 [.inr 162, .inl (s), .inl (x), .inl (1 + n), .inl (1 + d), .inl (M 163 (11 + 80 * s + d))] [] (0, 0) (z, P, M) _
          refine e_goto (k := 37) (xi128 37) ?_
          rw [(show l_m_cntD_a s x M (k + 1) n d = l_m_cntD_a s x M k (1 + n) (1 + d) from by rw [l_m_cntD_a, if_neg c0, if_neg c1, if_neg c3])] at kk
          exact ih _ (1 + n) (1 + d) (by omega) (by omega) kk
def v_m_cntD (s x : Int) (M : Int → Int → Int) : Int := (l_m_cntD_a s x M 13 0 0).1
theorem k_m_cntD {z : Int} {P M : Int → Int → Int} (hS : x_Sh z P) (hT : y_TC M) (s : Int) (x : Int)  (hs : 0 ≤ s ∧ s < 12) : x_CallR 128 [.inr 162, .inl (s), .inl (x)] (z, P, M) (fun q => q = (some (.inl (v_m_cntD s x M)), (z, P, M)) ∧ (fun v => 0 ≤ v ∧ v ≤ 12) (v_m_cntD s x M)) := by
  refine e_body (ls0 := [.inr 162, .inl (s), .inl (x), x_un, x_un, x_un]) xm128 rfl ?_
  refine e_iconst (k := 0) (xi128 0) ?_
  refine e_istore (k := 1) (xi128 1) (Nat.le_of_ble_eq_true rfl) ?_
  show x_Ev 128 2 [.inr 162, .inl (s), .inl (x), .inl 0, x_un, x_un] [] (0, 0) (z, P, M) _
  refine e_iconst (k := 2) (xi128 2) ?_
  refine e_istore (k := 3) (xi128 3) (Nat.le_of_ble_eq_true rfl) ?_
  show x_Ev 128 4 [.inr 162, .inl (s), .inl (x), .inl 0, .inl 0, x_un] [] (0, 0) (z, P, M) _
  refine kl_m_cntD_a hS hT s x    (by omega) 13 _ 0 0 (by omega) (by omega) ?_
  intro x3 q2
  show x_Ev 128 38 [.inr 162, .inl (s), .inl (x), .inl ((l_m_cntD_a s x M 13 0 0).1), .inl ((l_m_cntD_a s x M 13 0 0).2), x3] [] (0, 0) (z, P, M) _
  refine e_iload (k := 38) (xi128 38) rfl ?_
  refine e_iret (k := 39) (xi128 39) ?_
  exact y_fV (Q := fun v => 0 ≤ v ∧ v ≤ 12) (show v_m_cntD s x M = (l_m_cntD_a s x M 13 0 0).1 from rfl) (by omega)
def l_m_cntW_a (s wh mv : Int) (M : Int → Int → Int) : Nat → Int → Int → Int × Int
  | 0, n, w => (n, w)
  | k + 1, n, w => if M 163 1 ≤ w then (n, w) else if ¬ M 163 (1116 + 8 * w) = wh then l_m_cntW_a s wh mv M k n (1 + w) else if ¬ M 163 (1117 + 8 * w) = s then l_m_cntW_a s wh mv M k n (1 + w) else if mv = 0 then l_m_cntW_a s wh mv M k (1 + n) (1 + w) else if M 163 (1114 + 8 * w) = 2 then l_m_cntW_a s wh mv M k n (1 + w) else l_m_cntW_a s wh mv M k (1 + n) (1 + w)
theorem kl_m_cntW_a {z : Int} {P M : Int → Int → Int} {r : Option xV × xH → Prop} (hS : x_Sh z P) (hT : y_TC M) (s : Int) (wh : Int) (mv : Int)    : ∀ k : Nat, ∀ n : Int, ∀ w : Int, (0 ≤ n ∧ n ≤ w ∧ w ≤ 60) → 60 - w < (k : Int) → (0 ≤ ((l_m_cntW_a s wh mv M k n w).1) ∧ ((l_m_cntW_a s wh mv M k n w).1) ≤ 60 → x_Ev 131 38 [.inr 162, .inl (s), .inl (wh), .inl (mv), .inl ((l_m_cntW_a s wh mv M k n w).1), .inl ((l_m_cntW_a s wh mv M k n w).2)] [] (0, 0) (z, P, M) r) → x_Ev 131 4 [.inr 162, .inl (s), .inl (wh), .inl (mv), .inl (n), .inl (w)] [] (0, 0) (z, P, M) r := by
  intro k
  induction k with
  | zero => intro n w hi hm; omega
  | succ k ih =>
    intro n w hi hm kk
    refine e_iload (k := 4) (xi131 4) rfl ?_
    refine e_aload (k := 5) (xi131 5) rfl (by decide) ?_
    refine e_getR (j := 0) (w := 163) (k := 6) (xi131 6) (ok_mo hS) rfl (sh_all hS) ?_
    refine e_iconst (k := 7) (xi131 7) ?_
    have t1 := ty_a1 hT
    refine e_iald (w := M 163 1) (k := 8) (xi131 8) (ok_all hS) (by rw [ln_all]; omega) rfl ?_
    refine e_c_ge (k := 9) (xi131 9) (fun c0 => ?_) (fun c0 => ?_)
    · skip
      rw [(show l_m_cntW_a s wh mv M (k + 1) n w = (n, w) from by rw [l_m_cntW_a, if_pos c0])] at kk
      try dsimp only at kk
      exact kk (by first | exact trivial | omega)
    · skip
      refine e_iload (k := 10) (xi131 10) rfl ?_
      refine e_aload (k := 11) (xi131 11) rfl (by decide) ?_
      refine e_iload (k := 12) (xi131 12) rfl ?_
      refine e_iconst (k := 13) (xi131 13) ?_
      have t2 := ty_aW2 hT (i := 1116 + 8 * w) (w := w) (by omega) (by omega)
      refine e_call (k := 14) (v := some (.inl (M 163 (1116 + 8 * w)))) (h1 := (z, P, M)) (c1 := 0) (c2 := 0) (rest := [.inl (n)]) (as := [.inr 162, .inl (w), .inl 2]) (xi131 14) (by decide) xm129 rfl ⟨rfl, Nat.le_of_ble_eq_true rfl, by decide⟩ (Or.inr (x_okt (ok_mo hS))) (k_mof hS hT w 2 (1116 + 8 * w) (by omega) (by omega) (by omega)) ?_
      refine e_iload (k := 15) (xi131 15) rfl ?_
      refine e_c_ne (k := 16) (xi131 16) (fun c1 => ?_) (fun c1 => ?_)
      · skip
        refine e_iconst (k := 33) (xi131 33) ?_
        refine e_iadd (w := n) (k := 34) (xi131 34) (x_wn (by omega)) ?_
        refine e_istore (k := 35) (xi131 35) (Nat.le_of_ble_eq_true rfl) ?_
        show x_Ev 131 36 [.inr 162, .inl (s), .inl (wh), .inl (mv), .inl (n), .inl (w)] [] (0, 0) (z, P, M) _
        refine e_iinc (w := 1 + w) (k := 36) (xi131 36) rfl (x_wn (by omega)) ?_
        show x_Ev 131 37 [.inr 162, .inl (s), .inl (wh), .inl (mv), .inl (n), .inl (1 + w)] [] (0, 0) (z, P, M) _
        refine e_goto (k := 37) (xi131 37) ?_
        rw [(show l_m_cntW_a s wh mv M (k + 1) n w = l_m_cntW_a s wh mv M k n (1 + w) from by rw [l_m_cntW_a, if_neg c0, if_pos c1])] at kk
        exact ih n (1 + w) (by omega) (by omega) kk
      · skip
        refine e_aload (k := 17) (xi131 17) rfl (by decide) ?_
        refine e_iload (k := 18) (xi131 18) rfl ?_
        refine e_iconst (k := 19) (xi131 19) ?_
        have t3 := ty_aW3 hT (i := 1117 + 8 * w) (w := w) (by omega) (by omega)
        refine e_call (k := 20) (v := some (.inl (M 163 (1117 + 8 * w)))) (h1 := (z, P, M)) (c1 := 0) (c2 := 0) (rest := [.inl (n)]) (as := [.inr 162, .inl (w), .inl 3]) (xi131 20) (by decide) xm129 rfl ⟨rfl, Nat.le_of_ble_eq_true rfl, by decide⟩ (Or.inr (x_okt (ok_mo hS))) (k_mof hS hT w 3 (1117 + 8 * w) (by omega) (by omega) (by omega)) ?_
        refine e_iload (k := 21) (xi131 21) rfl ?_
        refine e_c_ne (k := 22) (xi131 22) (fun c2 => ?_) (fun c2 => ?_)
        · skip
          refine e_iconst (k := 33) (xi131 33) ?_
          refine e_iadd (w := n) (k := 34) (xi131 34) (x_wn (by omega)) ?_
          refine e_istore (k := 35) (xi131 35) (Nat.le_of_ble_eq_true rfl) ?_
          show x_Ev 131 36 [.inr 162, .inl (s), .inl (wh), .inl (mv), .inl (n), .inl (w)] [] (0, 0) (z, P, M) _
          refine e_iinc (w := 1 + w) (k := 36) (xi131 36) rfl (x_wn (by omega)) ?_
          show x_Ev 131 37 [.inr 162, .inl (s), .inl (wh), .inl (mv), .inl (n), .inl (1 + w)] [] (0, 0) (z, P, M) _
          refine e_goto (k := 37) (xi131 37) ?_
          rw [(show l_m_cntW_a s wh mv M (k + 1) n w = l_m_cntW_a s wh mv M k n (1 + w) from by rw [l_m_cntW_a, if_neg c0, if_neg c1, if_pos c2])] at kk
          exact ih n (1 + w) (by omega) (by omega) kk
        · skip
          refine e_iload (k := 23) (xi131 23) rfl ?_
          refine e_z_eq (k := 24) (xi131 24) (fun c3 => ?_) (fun c3 => ?_)
          · skip
            refine e_iconst (k := 31) (xi131 31) ?_
            refine e_goto (k := 32) (xi131 32) ?_
            refine e_iadd (w := 1 + n) (k := 34) (xi131 34) (x_wn (by omega)) ?_
            refine e_istore (k := 35) (xi131 35) (Nat.le_of_ble_eq_true rfl) ?_
            show x_Ev 131 36 [.inr 162, .inl (s), .inl (wh), .inl (mv), .inl (1 + n), .inl (w)] [] (0, 0) (z, P, M) _
            refine e_iinc (w := 1 + w) (k := 36) (xi131 36) rfl (x_wn (by omega)) ?_
            show x_Ev 131 37 [.inr 162, .inl (s), .inl (wh), .inl (mv), .inl (1 + n), .inl (1 + w)] [] (0, 0) (z, P, M) _
            refine e_goto (k := 37) (xi131 37) ?_
            rw [(show l_m_cntW_a s wh mv M (k + 1) n w = l_m_cntW_a s wh mv M k (1 + n) (1 + w) from by rw [l_m_cntW_a, if_neg c0, if_neg c1, if_neg c2, if_pos c3])] at kk
            exact ih (1 + n) (1 + w) (by omega) (by omega) kk
          · skip
            refine e_aload (k := 25) (xi131 25) rfl (by decide) ?_
            refine e_iload (k := 26) (xi131 26) rfl ?_
            refine e_iconst (k := 27) (xi131 27) ?_
            have t4 := ty_aW0 hT (i := 1114 + 8 * w) (w := w) (by omega) (by omega)
            refine e_call (k := 28) (v := some (.inl (M 163 (1114 + 8 * w)))) (h1 := (z, P, M)) (c1 := 0) (c2 := 0) (rest := [.inl (n)]) (as := [.inr 162, .inl (w), .inl 0]) (xi131 28) (by decide) xm129 rfl ⟨rfl, Nat.le_of_ble_eq_true rfl, by decide⟩ (Or.inr (x_okt (ok_mo hS))) (k_mof hS hT w 0 (1114 + 8 * w) (by omega) (by omega) (by omega)) ?_
            refine e_iconst (k := 29) (xi131 29) ?_
            refine e_c_eq (k := 30) (xi131 30) (fun c4 => ?_) (fun c4 => ?_)
            · skip
              refine e_iconst (k := 33) (xi131 33) ?_
              refine e_iadd (w := n) (k := 34) (xi131 34) (x_wn (by omega)) ?_
              refine e_istore (k := 35) (xi131 35) (Nat.le_of_ble_eq_true rfl) ?_
              show x_Ev 131 36 [.inr 162, .inl (s), .inl (wh), .inl (mv), .inl (n), .inl (w)] [] (0, 0) (z, P, M) _
              refine e_iinc (w := 1 + w) (k := 36) (xi131 36) rfl (x_wn (by omega)) ?_
              show x_Ev 131 37 [.inr 162, .inl (s), .inl (wh), .inl (mv), .inl (n), .inl (1 + w)] [] (0, 0) (z, P, M) _
              refine e_goto (k := 37) (xi131 37) ?_
              rw [(show l_m_cntW_a s wh mv M (k + 1) n w = l_m_cntW_a s wh mv M k n (1 + w) from by rw [l_m_cntW_a, if_neg c0, if_neg c1, if_neg c2, if_neg c3, if_pos c4])] at kk
              exact ih n (1 + w) (by omega) (by omega) kk
            · skip
              refine e_iconst (k := 31) (xi131 31) ?_
              refine e_goto (k := 32) (xi131 32) ?_
              refine e_iadd (w := 1 + n) (k := 34) (xi131 34) (x_wn (by omega)) ?_
              refine e_istore (k := 35) (xi131 35) (Nat.le_of_ble_eq_true rfl) ?_
              show x_Ev 131 36 [.inr 162, .inl (s), .inl (wh), .inl (mv), .inl (1 + n), .inl (w)] [] (0, 0) (z, P, M) _
              refine e_iinc (w := 1 + w) (k := 36) (xi131 36) rfl (x_wn (by omega)) ?_
              show x_Ev 131 37 [.inr 162, .inl (s), .inl (wh), .inl (mv), .inl (1 + n), .inl (1 + w)] [] (0, 0) (z, P, M) _
              refine e_goto (k := 37) (xi131 37) ?_
              rw [(show l_m_cntW_a s wh mv M (k + 1) n w = l_m_cntW_a s wh mv M k (1 + n) (1 + w) from by rw [l_m_cntW_a, if_neg c0, if_neg c1, if_neg c2, if_neg c3, if_neg c4])] at kk
              exact ih (1 + n) (1 + w) (by omega) (by omega) kk
def v_m_cntW (s wh mv : Int) (M : Int → Int → Int) : Int := (l_m_cntW_a s wh mv M 61 0 0).1
theorem k_m_cntW {z : Int} {P M : Int → Int → Int} (hS : x_Sh z P) (hT : y_TC M) (s : Int) (wh : Int) (mv : Int)   : x_CallR 131 [.inr 162, .inl (s), .inl (wh), .inl (mv)] (z, P, M) (fun q => q = (some (.inl (v_m_cntW s wh mv M)), (z, P, M)) ∧ (fun v => 0 ≤ v ∧ v ≤ 60) (v_m_cntW s wh mv M)) := by
  have ka1 := ty_a1 hT
  refine e_body (ls0 := [.inr 162, .inl (s), .inl (wh), .inl (mv), x_un, x_un]) xm131 rfl ?_
  refine e_iconst (k := 0) (xi131 0) ?_
  refine e_istore (k := 1) (xi131 1) (Nat.le_of_ble_eq_true rfl) ?_
  show x_Ev 131 2 [.inr 162, .inl (s), .inl (wh), .inl (mv), .inl 0, x_un] [] (0, 0) (z, P, M) _
  refine e_iconst (k := 2) (xi131 2) ?_
  refine e_istore (k := 3) (xi131 3) (Nat.le_of_ble_eq_true rfl) ?_
  show x_Ev 131 4 [.inr 162, .inl (s), .inl (wh), .inl (mv), .inl 0, .inl 0] [] (0, 0) (z, P, M) _
  refine kl_m_cntW_a hS hT s wh mv     61 0 0 (by omega) (by omega) ?_
  intro q2
  show x_Ev 131 38 [.inr 162, .inl (s), .inl (wh), .inl (mv), .inl ((l_m_cntW_a s wh mv M 61 0 0).1), .inl ((l_m_cntW_a s wh mv M 61 0 0).2)] [] (0, 0) (z, P, M) _
  refine e_iload (k := 38) (xi131 38) rfl ?_
  refine e_iret (k := 39) (xi131 39) ?_
  exact y_fV (Q := fun v => 0 ≤ v ∧ v ≤ 60) (show v_m_cntW s wh mv M = (l_m_cntW_a s wh mv M 61 0 0).1 from rfl) (by omega)
def u_m_comes (w s d : Int) (M : Int → Int → Int) : Int → Int → Int := if ¬ M 163 (1114 + 8 * w) = 2 then (x_up ((x_up ((x_up ((x_up M 163 (11 + 80 * s + d) w)) 163 (1116 + 8 * w) 0)) 163 (1117 + 8 * w) s)) 163 (1118 + 8 * w) d) else (x_up ((x_up ((x_up ((x_up ((x_up M 163 (11 + 80 * s + d) w)) 163 (12 + 80 * s + d) w)) 163 (1116 + 8 * w) 0)) 163 (1117 + 8 * w) s)) 163 (1118 + 8 * w) d)
theorem k_m_comes {z : Int} {P M : Int → Int → Int} (hS : x_Sh z P) (hT : y_TC M) (w : Int) (s : Int) (d : Int)  (hw : 0 ≤ w ∧ w < 60) (hs : 0 ≤ s ∧ s < 12) (hd : 0 ≤ d ∧ d < 12) : x_CallR 136 [.inr 162, .inl (w), .inl (s), .inl (d)] (z, P, M) (fun q => q = (none, (z, P, u_m_comes w s d M)) ∧ y_TL 5 M (u_m_comes w s d M)) := by
  have tl0 : y_TL 5 M M := tl_refl hT
  refine e_body (ls0 := [.inr 162, .inl (w), .inl (s), .inl (d)]) xm136 rfl ?_
  refine e_aload (k := 0) (xi136 0) rfl (by decide) ?_
  refine e_getR (j := 0) (w := 163) (k := 1) (xi136 1) (ok_mo hS) rfl (sh_all hS) ?_
  refine e_aload (k := 2) (xi136 2) rfl (by decide) ?_
  refine e_iload (k := 3) (xi136 3) rfl ?_
  refine e_iload (k := 4) (xi136 4) rfl ?_
  refine e_call (k := 5) (v := some (.inl (11 + 80 * s + d))) (h1 := (z, P, M)) (c1 := 0) (c2 := 0) (rest := [.inr 163]) (as := [.inr 162, .inl (s), .inl (d)]) (xi136 5) (by decide) xm119 rfl ⟨rfl, Nat.le_of_ble_eq_true rfl, by decide⟩ (Or.inr (x_okt (ok_mo hS))) (k_mdockAt hS tl0.1 s d (by omega) (by omega)) ?_
  refine e_iload (k := 6) (xi136 6) rfl ?_
  refine e_iast (k := 7) (xi136 7) (ok_all hS) (by rw [ln_all]; omega) ?_
  have tl1 : y_TL 5 M (x_up M 163 (11 + 80 * s + d) w) := tl_up tl0 (sl_aZ (i := 11 + 80 * s + d) (s := s) (d := d) (by omega) (by omega) (by omega) (by omega)) (nf5 (nf_aZ (i := 11 + 80 * s + d) (s := s) (d := d) (by omega) (by omega) (by omega)) (by omega))
  refine e_aload (k := 8) (xi136 8) rfl (by decide) ?_
  refine e_iload (k := 9) (xi136 9) rfl ?_
  refine e_iconst (k := 10) (xi136 10) ?_
  have t2 := ty_aW0 tl0.1 (i := 1114 + 8 * w) (w := w) (by omega) (by omega)
  refine e_call (k := 11) (v := some (.inl (M 163 (1114 + 8 * w)))) (h1 := (z, P, (x_up M 163 (11 + 80 * s + d) w))) (c1 := 0) (c2 := 0) (rest := []) (as := [.inr 162, .inl (w), .inl 0]) (xi136 11) (by decide) xm129 rfl ⟨rfl, Nat.le_of_ble_eq_true rfl, by decide⟩ (Or.inr (x_okt (ok_mo hS))) (x_cvT (k_mof hS tl1.1 w 0 (1114 + 8 * w) (by omega) (by omega) (by omega)) (((x_up_nk (by omega)).trans rfl))) ?_
  refine e_iconst (k := 12) (xi136 12) ?_
  refine e_c_ne (k := 13) (xi136 13) (fun c0 => ?_) (fun c0 => ?_)
  · skip
    refine e_aload (k := 24) (xi136 24) rfl (by decide) ?_
    refine e_iload (k := 25) (xi136 25) rfl ?_
    refine e_iconst (k := 26) (xi136 26) ?_
    refine e_iconst (k := 27) (xi136 27) ?_
    have tl3 : y_TL 5 M (x_up ((x_up M 163 (11 + 80 * s + d) w)) 163 (1116 + 8 * w) 0) := tl_up tl1 (sl_aW2 (i := 1116 + 8 * w) (w := w) (by omega) (by omega) (by omega)) (nf5 (nf_aW2 (i := 1116 + 8 * w) (w := w) (by omega) (by omega)) (by omega))
    refine e_call (k := 28) (v := none) (h1 := (z, P, (x_up ((x_up M 163 (11 + 80 * s + d) w)) 163 (1116 + 8 * w) 0))) (c1 := 0) (c2 := 0) (rest := []) (as := [.inr 162, .inl (w), .inl 2, .inl 0]) (xi136 28) (by decide) xm130 rfl ⟨rfl, Nat.le_of_ble_eq_true rfl, by decide⟩ (Or.inr (x_okt (ok_mo hS))) (k_msets hS w 2 0 (1116 + 8 * w) (by omega) (by omega) (by omega)) ?_
    refine e_aload (k := 29) (xi136 29) rfl (by decide) ?_
    refine e_iload (k := 30) (xi136 30) rfl ?_
    refine e_iconst (k := 31) (xi136 31) ?_
    refine e_iload (k := 32) (xi136 32) rfl ?_
    have tl4 : y_TL 5 M (x_up ((x_up ((x_up M 163 (11 + 80 * s + d) w)) 163 (1116 + 8 * w) 0)) 163 (1117 + 8 * w) s) := tl_up tl3 (sl_aW3 (i := 1117 + 8 * w) (w := w) (by omega) (by omega) (by omega)) (nf5 (nf_aW3 (i := 1117 + 8 * w) (w := w) (by omega) (by omega)) (by omega))
    refine e_call (k := 33) (v := none) (h1 := (z, P, (x_up ((x_up ((x_up M 163 (11 + 80 * s + d) w)) 163 (1116 + 8 * w) 0)) 163 (1117 + 8 * w) s))) (c1 := 0) (c2 := 0) (rest := []) (as := [.inr 162, .inl (w), .inl 3, .inl (s)]) (xi136 33) (by decide) xm130 rfl ⟨rfl, Nat.le_of_ble_eq_true rfl, by decide⟩ (Or.inr (x_okt (ok_mo hS))) (k_msets hS w 3 s (1117 + 8 * w) (by omega) (by omega) (by omega)) ?_
    refine e_aload (k := 34) (xi136 34) rfl (by decide) ?_
    refine e_iload (k := 35) (xi136 35) rfl ?_
    refine e_iconst (k := 36) (xi136 36) ?_
    refine e_iload (k := 37) (xi136 37) rfl ?_
    have tl5 : y_TL 5 M (x_up ((x_up ((x_up ((x_up M 163 (11 + 80 * s + d) w)) 163 (1116 + 8 * w) 0)) 163 (1117 + 8 * w) s)) 163 (1118 + 8 * w) d) := tl_up tl4 (sl_aW4 (i := 1118 + 8 * w) (w := w) (by omega) (by omega) (by omega)) (nf5 (nf_aW4 (i := 1118 + 8 * w) (w := w) (by omega) (by omega)) (by omega))
    refine e_call (k := 38) (v := none) (h1 := (z, P, (x_up ((x_up ((x_up ((x_up M 163 (11 + 80 * s + d) w)) 163 (1116 + 8 * w) 0)) 163 (1117 + 8 * w) s)) 163 (1118 + 8 * w) d))) (c1 := 0) (c2 := 0) (rest := []) (as := [.inr 162, .inl (w), .inl 4, .inl (d)]) (xi136 38) (by decide) xm130 rfl ⟨rfl, Nat.le_of_ble_eq_true rfl, by decide⟩ (Or.inr (x_okt (ok_mo hS))) (k_msets hS w 4 d (1118 + 8 * w) (by omega) (by omega) (by omega)) ?_
    refine e_vret (k := 39) (xi136 39) ?_
    exact y_fU (show u_m_comes w s d M = (x_up ((x_up ((x_up ((x_up M 163 (11 + 80 * s + d) w)) 163 (1116 + 8 * w) 0)) 163 (1117 + 8 * w) s)) 163 (1118 + 8 * w) d) from by rw [u_m_comes, if_pos c0]) tl5
  · skip
    refine e_aload (k := 14) (xi136 14) rfl (by decide) ?_
    refine e_getR (j := 0) (w := 163) (k := 15) (xi136 15) (ok_mo hS) rfl (sh_all hS) ?_
    refine e_aload (k := 16) (xi136 16) rfl (by decide) ?_
    refine e_iload (k := 17) (xi136 17) rfl ?_
    refine e_iload (k := 18) (xi136 18) rfl ?_
    refine e_iconst (k := 19) (xi136 19) ?_
    refine e_iadd (w := 1 + d) (k := 20) (xi136 20) (x_wn (by omega)) ?_
    refine e_call (k := 21) (v := some (.inl (12 + 80 * s + d))) (h1 := (z, P, (x_up M 163 (11 + 80 * s + d) w))) (c1 := 0) (c2 := 0) (rest := [.inr 163]) (as := [.inr 162, .inl (s), .inl (1 + d)]) (xi136 21) (by decide) xm119 rfl ⟨rfl, Nat.le_of_ble_eq_true rfl, by decide⟩ (Or.inr (x_okt (ok_mo hS))) (x_cvT (k_mdockAt hS tl1.1 s (1 + d) (by omega) (by omega)) (by omega)) ?_
    refine e_iload (k := 22) (xi136 22) rfl ?_
    refine e_iast (k := 23) (xi136 23) (ok_all hS) (by rw [ln_all]; omega) ?_
    have tl6 : y_TL 5 M (x_up ((x_up M 163 (11 + 80 * s + d) w)) 163 (12 + 80 * s + d) w) := tl_up tl1 (sl_aZ (i := 12 + 80 * s + d) (s := s) (d := 1 + d) (by omega) (by omega) (by omega) (by omega)) (nf5 (nf_aZ (i := 12 + 80 * s + d) (s := s) (d := 1 + d) (by omega) (by omega) (by omega)) (by omega))
    refine e_aload (k := 24) (xi136 24) rfl (by decide) ?_
    refine e_iload (k := 25) (xi136 25) rfl ?_
    refine e_iconst (k := 26) (xi136 26) ?_
    refine e_iconst (k := 27) (xi136 27) ?_
    have tl7 : y_TL 5 M (x_up ((x_up ((x_up M 163 (11 + 80 * s + d) w)) 163 (12 + 80 * s + d) w)) 163 (1116 + 8 * w) 0) := tl_up tl6 (sl_aW2 (i := 1116 + 8 * w) (w := w) (by omega) (by omega) (by omega)) (nf5 (nf_aW2 (i := 1116 + 8 * w) (w := w) (by omega) (by omega)) (by omega))
    refine e_call (k := 28) (v := none) (h1 := (z, P, (x_up ((x_up ((x_up M 163 (11 + 80 * s + d) w)) 163 (12 + 80 * s + d) w)) 163 (1116 + 8 * w) 0))) (c1 := 0) (c2 := 0) (rest := []) (as := [.inr 162, .inl (w), .inl 2, .inl 0]) (xi136 28) (by decide) xm130 rfl ⟨rfl, Nat.le_of_ble_eq_true rfl, by decide⟩ (Or.inr (x_okt (ok_mo hS))) (k_msets hS w 2 0 (1116 + 8 * w) (by omega) (by omega) (by omega)) ?_
    refine e_aload (k := 29) (xi136 29) rfl (by decide) ?_
    refine e_iload (k := 30) (xi136 30) rfl ?_
    refine e_iconst (k := 31) (xi136 31) ?_
    refine e_iload (k := 32) (xi136 32) rfl ?_
    have tl8 : y_TL 5 M (x_up ((x_up ((x_up ((x_up M 163 (11 + 80 * s + d) w)) 163 (12 + 80 * s + d) w)) 163 (1116 + 8 * w) 0)) 163 (1117 + 8 * w) s) := tl_up tl7 (sl_aW3 (i := 1117 + 8 * w) (w := w) (by omega) (by omega) (by omega)) (nf5 (nf_aW3 (i := 1117 + 8 * w) (w := w) (by omega) (by omega)) (by omega))
    refine e_call (k := 33) (v := none) (h1 := (z, P, (x_up ((x_up ((x_up ((x_up M 163 (11 + 80 * s + d) w)) 163 (12 + 80 * s + d) w)) 163 (1116 + 8 * w) 0)) 163 (1117 + 8 * w) s))) (c1 := 0) (c2 := 0) (rest := []) (as := [.inr 162, .inl (w), .inl 3, .inl (s)]) (xi136 33) (by decide) xm130 rfl ⟨rfl, Nat.le_of_ble_eq_true rfl, by decide⟩ (Or.inr (x_okt (ok_mo hS))) (k_msets hS w 3 s (1117 + 8 * w) (by omega) (by omega) (by omega)) ?_
    refine e_aload (k := 34) (xi136 34) rfl (by decide) ?_
    refine e_iload (k := 35) (xi136 35) rfl ?_
    refine e_iconst (k := 36) (xi136 36) ?_
    refine e_iload (k := 37) (xi136 37) rfl ?_
    have tl9 : y_TL 5 M (x_up ((x_up ((x_up ((x_up ((x_up M 163 (11 + 80 * s + d) w)) 163 (12 + 80 * s + d) w)) 163 (1116 + 8 * w) 0)) 163 (1117 + 8 * w) s)) 163 (1118 + 8 * w) d) := tl_up tl8 (sl_aW4 (i := 1118 + 8 * w) (w := w) (by omega) (by omega) (by omega)) (nf5 (nf_aW4 (i := 1118 + 8 * w) (w := w) (by omega) (by omega)) (by omega))
    refine e_call (k := 38) (v := none) (h1 := (z, P, (x_up ((x_up ((x_up ((x_up ((x_up M 163 (11 + 80 * s + d) w)) 163 (12 + 80 * s + d) w)) 163 (1116 + 8 * w) 0)) 163 (1117 + 8 * w) s)) 163 (1118 + 8 * w) d))) (c1 := 0) (c2 := 0) (rest := []) (as := [.inr 162, .inl (w), .inl 4, .inl (d)]) (xi136 38) (by decide) xm130 rfl ⟨rfl, Nat.le_of_ble_eq_true rfl, by decide⟩ (Or.inr (x_okt (ok_mo hS))) (k_msets hS w 4 d (1118 + 8 * w) (by omega) (by omega) (by omega)) ?_
    refine e_vret (k := 39) (xi136 39) ?_
    exact y_fU (show u_m_comes w s d M = (x_up ((x_up ((x_up ((x_up ((x_up M 163 (11 + 80 * s + d) w)) 163 (12 + 80 * s + d) w)) 163 (1116 + 8 * w) 0)) 163 (1117 + 8 * w) s)) 163 (1118 + 8 * w) d) from by rw [u_m_comes, if_neg c0]) tl9
def u_m_leaves (w : Int) (M : Int → Int → Int) : Int → Int → Int := if ¬ M 163 (1114 + 8 * w) = 2 then (x_up M 163 (11 + 80 * M 163 (1117 + 8 * w) + M 163 (1118 + 8 * w)) ((-1))) else (x_up ((x_up M 163 (11 + 80 * M 163 (1117 + 8 * w) + M 163 (1118 + 8 * w)) ((-1)))) 163 (12 + 80 * M 163 (1117 + 8 * w) + M 163 (1118 + 8 * w)) ((-1)))
theorem k_m_leaves {z : Int} {P M : Int → Int → Int} (hS : x_Sh z P) (hT : y_TC M) (w : Int)  (hw : 0 ≤ w ∧ w < 60) : x_CallR 137 [.inr 162, .inl (w)] (z, P, M) (fun q => q = (none, (z, P, u_m_leaves w M)) ∧ y_TL 5 M (u_m_leaves w M)) := by
  have tl0 : y_TL 5 M M := tl_refl hT
  refine e_body (ls0 := [.inr 162, .inl (w)]) xm137 rfl ?_
  refine e_aload (k := 0) (xi137 0) rfl (by decide) ?_
  refine e_getR (j := 0) (w := 163) (k := 1) (xi137 1) (ok_mo hS) rfl (sh_all hS) ?_
  refine e_aload (k := 2) (xi137 2) rfl (by decide) ?_
  refine e_aload (k := 3) (xi137 3) rfl (by decide) ?_
  refine e_iload (k := 4) (xi137 4) rfl ?_
  refine e_iconst (k := 5) (xi137 5) ?_
  have t1 := ty_aW3 tl0.1 (i := 1117 + 8 * w) (w := w) (by omega) (by omega)
  refine e_call (k := 6) (v := some (.inl (M 163 (1117 + 8 * w)))) (h1 := (z, P, M)) (c1 := 0) (c2 := 0) (rest := [.inr 162, .inr 163]) (as := [.inr 162, .inl (w), .inl 3]) (xi137 6) (by decide) xm129 rfl ⟨rfl, Nat.le_of_ble_eq_true rfl, by decide⟩ (Or.inr (x_okt (ok_mo hS))) (k_mof hS tl0.1 w 3 (1117 + 8 * w) (by omega) (by omega) (by omega)) ?_
  refine e_aload (k := 7) (xi137 7) rfl (by decide) ?_
  refine e_iload (k := 8) (xi137 8) rfl ?_
  refine e_iconst (k := 9) (xi137 9) ?_
  have t2 := ty_aW4 tl0.1 (i := 1118 + 8 * w) (w := w) (by omega) (by omega)
  refine e_call (k := 10) (v := some (.inl (M 163 (1118 + 8 * w)))) (h1 := (z, P, M)) (c1 := 0) (c2 := 0) (rest := [.inl (M 163 (1117 + 8 * w)), .inr 162, .inr 163]) (as := [.inr 162, .inl (w), .inl 4]) (xi137 10) (by decide) xm129 rfl ⟨rfl, Nat.le_of_ble_eq_true rfl, by decide⟩ (Or.inr (x_okt (ok_mo hS))) (k_mof hS tl0.1 w 4 (1118 + 8 * w) (by omega) (by omega) (by omega)) ?_
  refine e_call (k := 11) (v := some (.inl (11 + 80 * M 163 (1117 + 8 * w) + M 163 (1118 + 8 * w)))) (h1 := (z, P, M)) (c1 := 0) (c2 := 0) (rest := [.inr 163]) (as := [.inr 162, .inl (M 163 (1117 + 8 * w)), .inl (M 163 (1118 + 8 * w))]) (xi137 11) (by decide) xm119 rfl ⟨rfl, Nat.le_of_ble_eq_true rfl, by decide⟩ (Or.inr (x_okt (ok_mo hS))) (k_mdockAt hS tl0.1 (M 163 (1117 + 8 * w)) (M 163 (1118 + 8 * w)) (by omega) (by omega)) ?_
  refine e_iconst (k := 12) (xi137 12) ?_
  refine e_iast (k := 13) (xi137 13) (ok_all hS) (by rw [ln_all]; omega) ?_
  have tl3 : y_TL 5 M (x_up M 163 (11 + 80 * M 163 (1117 + 8 * w) + M 163 (1118 + 8 * w)) ((-1))) := tl_up tl0 (sl_aX (i := 11 + 80 * M 163 (1117 + 8 * w) + M 163 (1118 + 8 * w)) (s := M 163 (1117 + 8 * w)) (d := M 163 (1118 + 8 * w)) (by omega) (by omega) (by omega)) (nf5 (nf_aX (i := 11 + 80 * M 163 (1117 + 8 * w) + M 163 (1118 + 8 * w)) (s := M 163 (1117 + 8 * w)) (d := M 163 (1118 + 8 * w)) (by omega) (by omega) (by omega)) (by omega))
  refine e_aload (k := 14) (xi137 14) rfl (by decide) ?_
  refine e_iload (k := 15) (xi137 15) rfl ?_
  refine e_iconst (k := 16) (xi137 16) ?_
  have t4 := ty_aW0 tl0.1 (i := 1114 + 8 * w) (w := w) (by omega) (by omega)
  refine e_call (k := 17) (v := some (.inl (M 163 (1114 + 8 * w)))) (h1 := (z, P, (x_up M 163 (11 + 80 * M 163 (1117 + 8 * w) + M 163 (1118 + 8 * w)) ((-1))))) (c1 := 0) (c2 := 0) (rest := []) (as := [.inr 162, .inl (w), .inl 0]) (xi137 17) (by decide) xm129 rfl ⟨rfl, Nat.le_of_ble_eq_true rfl, by decide⟩ (Or.inr (x_okt (ok_mo hS))) (x_cvT (k_mof hS tl3.1 w 0 (1114 + 8 * w) (by omega) (by omega) (by omega)) (((x_up_nk (by omega)).trans rfl))) ?_
  refine e_iconst (k := 18) (xi137 18) ?_
  refine e_c_ne (k := 19) (xi137 19) (fun c0 => ?_) (fun c0 => ?_)
  · skip
    refine e_vret (k := 36) (xi137 36) ?_
    exact y_fU (show u_m_leaves w M = (x_up M 163 (11 + 80 * M 163 (1117 + 8 * w) + M 163 (1118 + 8 * w)) ((-1))) from by rw [u_m_leaves, if_pos c0]) tl3
  · skip
    refine e_aload (k := 20) (xi137 20) rfl (by decide) ?_
    refine e_getR (j := 0) (w := 163) (k := 21) (xi137 21) (ok_mo hS) rfl (sh_all hS) ?_
    refine e_aload (k := 22) (xi137 22) rfl (by decide) ?_
    refine e_aload (k := 23) (xi137 23) rfl (by decide) ?_
    refine e_iload (k := 24) (xi137 24) rfl ?_
    refine e_iconst (k := 25) (xi137 25) ?_
    refine e_call (k := 26) (v := some (.inl (M 163 (1117 + 8 * w)))) (h1 := (z, P, (x_up M 163 (11 + 80 * M 163 (1117 + 8 * w) + M 163 (1118 + 8 * w)) ((-1))))) (c1 := 0) (c2 := 0) (rest := [.inr 162, .inr 163]) (as := [.inr 162, .inl (w), .inl 3]) (xi137 26) (by decide) xm129 rfl ⟨rfl, Nat.le_of_ble_eq_true rfl, by decide⟩ (Or.inr (x_okt (ok_mo hS))) (x_cvT (k_mof hS tl3.1 w 3 (1117 + 8 * w) (by omega) (by omega) (by omega)) (((x_up_nk (by omega)).trans rfl))) ?_
    refine e_aload (k := 27) (xi137 27) rfl (by decide) ?_
    refine e_iload (k := 28) (xi137 28) rfl ?_
    refine e_iconst (k := 29) (xi137 29) ?_
    refine e_call (k := 30) (v := some (.inl (M 163 (1118 + 8 * w)))) (h1 := (z, P, (x_up M 163 (11 + 80 * M 163 (1117 + 8 * w) + M 163 (1118 + 8 * w)) ((-1))))) (c1 := 0) (c2 := 0) (rest := [.inl (M 163 (1117 + 8 * w)), .inr 162, .inr 163]) (as := [.inr 162, .inl (w), .inl 4]) (xi137 30) (by decide) xm129 rfl ⟨rfl, Nat.le_of_ble_eq_true rfl, by decide⟩ (Or.inr (x_okt (ok_mo hS))) (x_cvT (k_mof hS tl3.1 w 4 (1118 + 8 * w) (by omega) (by omega) (by omega)) (((x_up_nk (by omega)).trans rfl))) ?_
    refine e_iconst (k := 31) (xi137 31) ?_
    refine e_iadd (w := 1 + M 163 (1118 + 8 * w)) (k := 32) (xi137 32) (x_wn (by omega)) ?_
    refine e_call (k := 33) (v := some (.inl (12 + 80 * M 163 (1117 + 8 * w) + M 163 (1118 + 8 * w)))) (h1 := (z, P, (x_up M 163 (11 + 80 * M 163 (1117 + 8 * w) + M 163 (1118 + 8 * w)) ((-1))))) (c1 := 0) (c2 := 0) (rest := [.inr 163]) (as := [.inr 162, .inl (M 163 (1117 + 8 * w)), .inl (1 + M 163 (1118 + 8 * w))]) (xi137 33) (by decide) xm119 rfl ⟨rfl, Nat.le_of_ble_eq_true rfl, by decide⟩ (Or.inr (x_okt (ok_mo hS))) (x_cvT (k_mdockAt hS tl3.1 (M 163 (1117 + 8 * w)) (1 + M 163 (1118 + 8 * w)) (by omega) (by omega)) (by omega)) ?_
    refine e_iconst (k := 34) (xi137 34) ?_
    refine e_iast (k := 35) (xi137 35) (ok_all hS) (by rw [ln_all]; omega) ?_
    have tl5 : y_TL 5 M (x_up ((x_up M 163 (11 + 80 * M 163 (1117 + 8 * w) + M 163 (1118 + 8 * w)) ((-1)))) 163 (12 + 80 * M 163 (1117 + 8 * w) + M 163 (1118 + 8 * w)) ((-1))) := tl_up tl3 (sl_aX (i := 12 + 80 * M 163 (1117 + 8 * w) + M 163 (1118 + 8 * w)) (s := M 163 (1117 + 8 * w)) (d := 1 + M 163 (1118 + 8 * w)) (by omega) (by omega) (by omega)) (nf5 (nf_aX (i := 12 + 80 * M 163 (1117 + 8 * w) + M 163 (1118 + 8 * w)) (s := M 163 (1117 + 8 * w)) (d := 1 + M 163 (1118 + 8 * w)) (by omega) (by omega) (by omega)) (by omega))
    refine e_vret (k := 36) (xi137 36) ?_
    exact y_fU (show u_m_leaves w M = (x_up ((x_up M 163 (11 + 80 * M 163 (1117 + 8 * w) + M 163 (1118 + 8 * w)) ((-1)))) 163 (12 + 80 * M 163 (1117 + 8 * w) + M 163 (1118 + 8 * w)) ((-1))) from by rw [u_m_leaves, if_neg c0]) tl5
theorem k_mhasCharge {z : Int} {P M : Int → Int → Int} (hS : x_Sh z P) (hT : y_TC M) (kd : Int)   : x_Call 138 [.inl (kd)] (z, P, M) (some (.inl (x_b (kd = 1 ∨ kd = 2)))) (z, P, M) := by
  refine e_body (ls0 := [.inl (kd)]) xm138 rfl ?_
  refine e_iload (k := 0) (xi138 0) rfl ?_
  refine e_iconst (k := 1) (xi138 1) ?_
  refine e_c_eq (k := 2) (xi138 2) (fun c0 => ?_) (fun c0 => ?_)
  · skip
    refine e_iconst (k := 6) (xi138 6) ?_
    refine e_goto (k := 7) (xi138 7) ?_
    refine e_zret (k := 9) (xi138 9) (by first | decide | omega) ?_
    exact x_bT (by omega)
  · skip
    refine e_iload (k := 3) (xi138 3) rfl ?_
    refine e_iconst (k := 4) (xi138 4) ?_
    refine e_c_ne (k := 5) (xi138 5) (fun c1 => ?_) (fun c1 => ?_)
    · skip
      refine e_iconst (k := 8) (xi138 8) ?_
      refine e_zret (k := 9) (xi138 9) (by first | decide | omega) ?_
      exact x_bF (by omega)
    · skip
      refine e_iconst (k := 6) (xi138 6) ?_
      refine e_goto (k := 7) (xi138 7) ?_
      refine e_zret (k := 9) (xi138 9) (by first | decide | omega) ?_
      exact x_bT (by omega)
def v_m_falls (kd : Int) (M : Int → Int → Int) : Int := if ¬ kd = 2 then (if ¬ kd = 1 then 0 else 2) else 3
theorem k_m_falls {z : Int} {P M : Int → Int → Int} (hS : x_Sh z P) (hT : y_TC M) (kd : Int)   : x_CallR 147 [.inr 162, .inl (kd)] (z, P, M) (fun q => q = (some (.inl (v_m_falls kd M)), (z, P, M)) ∧ (fun v => v = 0 ∨ v = 2 ∨ v = 3) (v_m_falls kd M)) := by
  refine e_body (ls0 := [.inr 162, .inl (kd)]) xm147 rfl ?_
  refine e_iload (k := 0) (xi147 0) rfl ?_
  refine e_iconst (k := 1) (xi147 1) ?_
  refine e_c_ne (k := 2) (xi147 2) (fun c0 => ?_) (fun c0 => ?_)
  · skip
    refine e_iload (k := 5) (xi147 5) rfl ?_
    refine e_iconst (k := 6) (xi147 6) ?_
    refine e_c_ne (k := 7) (xi147 7) (fun c1 => ?_) (fun c1 => ?_)
    · skip
      refine e_iconst (k := 10) (xi147 10) ?_
      refine e_iret (k := 11) (xi147 11) ?_
      exact y_fV (Q := fun v => v = 0 ∨ v = 2 ∨ v = 3) (show v_m_falls kd M = 0 from by rw [v_m_falls, if_pos c0, if_pos c1]) (by omega)
    · skip
      refine e_iconst (k := 8) (xi147 8) ?_
      refine e_goto (k := 9) (xi147 9) ?_
      refine e_iret (k := 11) (xi147 11) ?_
      exact y_fV (Q := fun v => v = 0 ∨ v = 2 ∨ v = 3) (show v_m_falls kd M = 2 from by rw [v_m_falls, if_pos c0, if_neg c1]) (by omega)
  · skip
    refine e_iconst (k := 3) (xi147 3) ?_
    refine e_goto (k := 4) (xi147 4) ?_
    refine e_iret (k := 11) (xi147 11) ?_
    exact y_fV (Q := fun v => v = 0 ∨ v = 2 ∨ v = 3) (show v_m_falls kd M = 3 from by rw [v_m_falls, if_neg c0]) (by omega)
def l_m_enough_a (w s : Int) (M : Int → Int → Int) : Nat → Int → Int → Int × Int
  | 0, le, t => (le, t)
  | k + 1, le, t => if M 163 0 ≤ t then (le, t) else if t = s then l_m_enough_a w s M k le (1 + t) else if le < 0 then l_m_enough_a w s M k (M 163 (970 + 12 * s + t)) (1 + t) else if le ≤ M 163 (970 + 12 * s + t) then l_m_enough_a w s M k le (1 + t) else l_m_enough_a w s M k (M 163 (970 + 12 * s + t)) (1 + t)
theorem kl_m_enough_a {z : Int} {P M : Int → Int → Int} {r : Option xV × xH → Prop} (hS : x_Sh z P) (hT : y_TC M) (w : Int) (s : Int)   (hw : 0 ≤ w ∧ w < 60) (hs : 0 ≤ s ∧ s < 12) : ∀ k : Nat, ∀ le : Int, ∀ t : Int, ((-1 ≤ le ∧ le ≤ 999) ∧ 0 ≤ t ∧ t ≤ 12) → 12 - t < (k : Int) → (-1 ≤ ((l_m_enough_a w s M k le t).1) ∧ ((l_m_enough_a w s M k le t).1) ≤ 999 → x_Ev 148 28 [.inr 162, .inl (w), .inl (s), .inl ((l_m_enough_a w s M k le t).1), .inl ((l_m_enough_a w s M k le t).2)] [] (0, 0) (z, P, M) r) → x_Ev 148 4 [.inr 162, .inl (w), .inl (s), .inl (le), .inl (t)] [] (0, 0) (z, P, M) r := by
  intro k
  induction k with
  | zero => intro le t hi hm; omega
  | succ k ih =>
    intro le t hi hm kk
    refine e_iload (k := 4) (xi148 4) rfl ?_
    refine e_aload (k := 5) (xi148 5) rfl (by decide) ?_
    refine e_getR (j := 0) (w := 163) (k := 6) (xi148 6) (ok_mo hS) rfl (sh_all hS) ?_
    refine e_iconst (k := 7) (xi148 7) ?_
    have t1 := ty_a0 hT
    refine e_iald (w := M 163 0) (k := 8) (xi148 8) (ok_all hS) (by rw [ln_all]; omega) rfl ?_
    refine e_c_ge (k := 9) (xi148 9) (fun c0 => ?_) (fun c0 => ?_)
    · skip
      rw [(show l_m_enough_a w s M (k + 1) le t = (le, t) from by rw [l_m_enough_a, if_pos c0])] at kk
      try dsimp only at kk
      exact kk (by first | exact trivial | omega)
    · skip
      refine e_iload (k := 10) (xi148 10) rfl ?_
      refine e_iload (k := 11) (xi148 11) rfl ?_
      refine e_c_eq (k := 12) (xi148 12) (fun c1 => ?_) (fun c1 => ?_)
      · skip
        refine e_iinc (w := 1 + t) (k := 26) (xi148 26) rfl (x_wn (by omega)) ?_
        show x_Ev 148 27 [.inr 162, .inl (w), .inl (s), .inl (le), .inl (1 + t)] [] (0, 0) (z, P, M) _
        refine e_goto (k := 27) (xi148 27) ?_
        rw [(show l_m_enough_a w s M (k + 1) le t = l_m_enough_a w s M k le (1 + t) from by rw [l_m_enough_a, if_neg c0, if_pos c1])] at kk
        exact ih le (1 + t) (by omega) (by omega) kk
      · skip
        refine e_iload (k := 13) (xi148 13) rfl ?_
        refine e_z_lt (k := 14) (xi148 14) (fun c2 => ?_) (fun c2 => ?_)
        · skip
          refine e_aload (k := 21) (xi148 21) rfl (by decide) ?_
          refine e_iload (k := 22) (xi148 22) rfl ?_
          refine e_iload (k := 23) (xi148 23) rfl ?_
          have t2 := ty_aL hT (i := 970 + 12 * s + t) (a := s) (b := t) (by omega) (by omega) (by omega)
          refine e_call (k := 24) (v := some (.inl (M 163 (970 + 12 * s + t)))) (h1 := (z, P, M)) (c1 := 0) (c2 := 0) (rest := []) (as := [.inr 162, .inl (s), .inl (t)]) (xi148 24) (by decide) xm120 rfl ⟨rfl, Nat.le_of_ble_eq_true rfl, by decide⟩ (Or.inr (x_okt (ok_mo hS))) (k_mfar hS hT s t (970 + 12 * s + t) (by omega) (by omega) (by omega)) ?_
          refine e_istore (k := 25) (xi148 25) (Nat.le_of_ble_eq_true rfl) ?_
          show x_Ev 148 26 [.inr 162, .inl (w), .inl (s), .inl (M 163 (970 + 12 * s + t)), .inl (t)] [] (0, 0) (z, P, M) _
          refine e_iinc (w := 1 + t) (k := 26) (xi148 26) rfl (x_wn (by omega)) ?_
          show x_Ev 148 27 [.inr 162, .inl (w), .inl (s), .inl (M 163 (970 + 12 * s + t)), .inl (1 + t)] [] (0, 0) (z, P, M) _
          refine e_goto (k := 27) (xi148 27) ?_
          rw [(show l_m_enough_a w s M (k + 1) le t = l_m_enough_a w s M k (M 163 (970 + 12 * s + t)) (1 + t) from by rw [l_m_enough_a, if_neg c0, if_neg c1, if_pos c2])] at kk
          exact ih (M 163 (970 + 12 * s + t)) (1 + t) (by omega) (by omega) kk
        · skip
          refine e_aload (k := 15) (xi148 15) rfl (by decide) ?_
          refine e_iload (k := 16) (xi148 16) rfl ?_
          refine e_iload (k := 17) (xi148 17) rfl ?_
          have t3 := ty_aL hT (i := 970 + 12 * s + t) (a := s) (b := t) (by omega) (by omega) (by omega)
          refine e_call (k := 18) (v := some (.inl (M 163 (970 + 12 * s + t)))) (h1 := (z, P, M)) (c1 := 0) (c2 := 0) (rest := []) (as := [.inr 162, .inl (s), .inl (t)]) (xi148 18) (by decide) xm120 rfl ⟨rfl, Nat.le_of_ble_eq_true rfl, by decide⟩ (Or.inr (x_okt (ok_mo hS))) (k_mfar hS hT s t (970 + 12 * s + t) (by omega) (by omega) (by omega)) ?_
          refine e_iload (k := 19) (xi148 19) rfl ?_
          refine e_c_ge (k := 20) (xi148 20) (fun c3 => ?_) (fun c3 => ?_)
          · skip
            refine e_iinc (w := 1 + t) (k := 26) (xi148 26) rfl (x_wn (by omega)) ?_
            show x_Ev 148 27 [.inr 162, .inl (w), .inl (s), .inl (le), .inl (1 + t)] [] (0, 0) (z, P, M) _
            refine e_goto (k := 27) (xi148 27) ?_
            rw [(show l_m_enough_a w s M (k + 1) le t = l_m_enough_a w s M k le (1 + t) from by rw [l_m_enough_a, if_neg c0, if_neg c1, if_neg c2, if_pos c3])] at kk
            exact ih le (1 + t) (by omega) (by omega) kk
          · skip
            refine e_aload (k := 21) (xi148 21) rfl (by decide) ?_
            refine e_iload (k := 22) (xi148 22) rfl ?_
            refine e_iload (k := 23) (xi148 23) rfl ?_
            refine e_call (k := 24) (v := some (.inl (M 163 (970 + 12 * s + t)))) (h1 := (z, P, M)) (c1 := 0) (c2 := 0) (rest := []) (as := [.inr 162, .inl (s), .inl (t)]) (xi148 24) (by decide) xm120 rfl ⟨rfl, Nat.le_of_ble_eq_true rfl, by decide⟩ (Or.inr (x_okt (ok_mo hS))) (k_mfar hS hT s t (970 + 12 * s + t) (by omega) (by omega) (by omega)) ?_
            refine e_istore (k := 25) (xi148 25) (Nat.le_of_ble_eq_true rfl) ?_
            show x_Ev 148 26 [.inr 162, .inl (w), .inl (s), .inl (M 163 (970 + 12 * s + t)), .inl (t)] [] (0, 0) (z, P, M) _
            refine e_iinc (w := 1 + t) (k := 26) (xi148 26) rfl (x_wn (by omega)) ?_
            show x_Ev 148 27 [.inr 162, .inl (w), .inl (s), .inl (M 163 (970 + 12 * s + t)), .inl (1 + t)] [] (0, 0) (z, P, M) _
            refine e_goto (k := 27) (xi148 27) ?_
            rw [(show l_m_enough_a w s M (k + 1) le t = l_m_enough_a w s M k (M 163 (970 + 12 * s + t)) (1 + t) from by rw [l_m_enough_a, if_neg c0, if_neg c1, if_neg c2, if_neg c3])] at kk
            exact ih (M 163 (970 + 12 * s + t)) (1 + t) (by omega) (by omega) kk
def v_m_enough (w s : Int) (M : Int → Int → Int) : Int := if (l_m_enough_a w s M 13 ((-1)) 0).1 < 0 then 1 else if x_w (v_m_falls (M 163 (1114 + 8 * w)) M * ((l_m_enough_a w s M 13 ((-1)) 0).1)) ≤ M 163 (1115 + 8 * w) then 1 else if (M 163 (1114 + 8 * w)) = 1 ∨ (M 163 (1114 + 8 * w)) = 2 then 0 else 1
theorem k_m_enough {z : Int} {P M : Int → Int → Int} (hS : x_Sh z P) (hT : y_TC M) (w : Int) (s : Int)  (hw : 0 ≤ w ∧ w < 60) (hs : 0 ≤ s ∧ s < 12) : x_CallR 148 [.inr 162, .inl (w), .inl (s)] (z, P, M) (fun q => q = (some (.inl (v_m_enough w s M)), (z, P, M)) ∧ (fun v => 0 ≤ v ∧ v ≤ 1) (v_m_enough w s M)) := by
  refine e_body (ls0 := [.inr 162, .inl (w), .inl (s), x_un, x_un]) xm148 rfl ?_
  refine e_iconst (k := 0) (xi148 0) ?_
  refine e_istore (k := 1) (xi148 1) (Nat.le_of_ble_eq_true rfl) ?_
  show x_Ev 148 2 [.inr 162, .inl (w), .inl (s), .inl ((-1)), x_un] [] (0, 0) (z, P, M) _
  refine e_iconst (k := 2) (xi148 2) ?_
  refine e_istore (k := 3) (xi148 3) (Nat.le_of_ble_eq_true rfl) ?_
  show x_Ev 148 4 [.inr 162, .inl (w), .inl (s), .inl ((-1)), .inl 0] [] (0, 0) (z, P, M) _
  refine kl_m_enough_a hS hT w s    (by omega) (by omega) 13 ((-1)) 0 (by omega) (by omega) ?_
  intro q2
  show x_Ev 148 28 [.inr 162, .inl (w), .inl (s), .inl ((l_m_enough_a w s M 13 ((-1)) 0).1), .inl ((l_m_enough_a w s M 13 ((-1)) 0).2)] [] (0, 0) (z, P, M) _
  refine e_iload (k := 28) (xi148 28) rfl ?_
  refine e_z_lt (k := 29) (xi148 29) (fun c0 => ?_) (fun c0 => ?_)
  · skip
    refine e_iconst (k := 49) (xi148 49) ?_
    refine e_goto (k := 50) (xi148 50) ?_
    refine e_zret (k := 52) (xi148 52) (by first | decide | omega) ?_
    exact y_fV (Q := fun v => 0 ≤ v ∧ v ≤ 1) (show v_m_enough w s M = 1 from by rw [v_m_enough, if_pos c0]) (by omega)
  · skip
    refine e_aload (k := 30) (xi148 30) rfl (by decide) ?_
    refine e_iload (k := 31) (xi148 31) rfl ?_
    refine e_iconst (k := 32) (xi148 32) ?_
    have t3 := ty_aW1 hT (i := 1115 + 8 * w) (w := w) (by omega) (by omega)
    refine e_call (k := 33) (v := some (.inl (M 163 (1115 + 8 * w)))) (h1 := (z, P, M)) (c1 := 0) (c2 := 0) (rest := []) (as := [.inr 162, .inl (w), .inl 1]) (xi148 33) (by decide) xm129 rfl ⟨rfl, Nat.le_of_ble_eq_true rfl, by decide⟩ (Or.inr (x_okt (ok_mo hS))) (k_mof hS hT w 1 (1115 + 8 * w) (by omega) (by omega) (by omega)) ?_
    refine e_aload (k := 34) (xi148 34) rfl (by decide) ?_
    refine e_aload (k := 35) (xi148 35) rfl (by decide) ?_
    refine e_iload (k := 36) (xi148 36) rfl ?_
    refine e_iconst (k := 37) (xi148 37) ?_
    have t4 := ty_aW0 hT (i := 1114 + 8 * w) (w := w) (by omega) (by omega)
    refine e_call (k := 38) (v := some (.inl (M 163 (1114 + 8 * w)))) (h1 := (z, P, M)) (c1 := 0) (c2 := 0) (rest := [.inr 162, .inl (M 163 (1115 + 8 * w))]) (as := [.inr 162, .inl (w), .inl 0]) (xi148 38) (by decide) xm129 rfl ⟨rfl, Nat.le_of_ble_eq_true rfl, by decide⟩ (Or.inr (x_okt (ok_mo hS))) (k_mof hS hT w 0 (1114 + 8 * w) (by omega) (by omega) (by omega)) ?_
    refine e_callR (k := 39) (c1 := 0) (c2 := 0) (rest := [.inl (M 163 (1115 + 8 * w))]) (as := [.inr 162, .inl (M 163 (1114 + 8 * w))]) (xi148 39) (by decide) xm147 rfl ⟨rfl, Nat.le_of_ble_eq_true rfl, by decide⟩ (Or.inr (x_okt (ok_mo hS))) (k_m_falls hS hT (M 163 (1114 + 8 * w))  ) ?_
    rintro v_ h_ ⟨e5, q7⟩
    cases e5
    show x_Ev 148 40 [.inr 162, .inl (w), .inl (s), .inl ((l_m_enough_a w s M 13 ((-1)) 0).1), .inl ((l_m_enough_a w s M 13 ((-1)) 0).2)] [.inl (v_m_falls (M 163 (1114 + 8 * w)) M), .inl (M 163 (1115 + 8 * w))] (0, 0) (z, P, M) _
    refine e_iload (k := 40) (xi148 40) rfl ?_
    refine e_imul (w := x_w (v_m_falls (M 163 (1114 + 8 * w)) M * ((l_m_enough_a w s M 13 ((-1)) 0).1))) (k := 41) (xi148 41) (x_wr (by omega)) ?_
    refine e_c_ge (k := 42) (xi148 42) (fun c1 => ?_) (fun c1 => ?_)
    · skip
      refine e_iconst (k := 49) (xi148 49) ?_
      refine e_goto (k := 50) (xi148 50) ?_
      refine e_zret (k := 52) (xi148 52) (by first | decide | omega) ?_
      exact y_fV (Q := fun v => 0 ≤ v ∧ v ≤ 1) (show v_m_enough w s M = 1 from by rw [v_m_enough, if_neg c0, if_pos c1]) (by omega)
    · skip
      refine e_aload (k := 43) (xi148 43) rfl (by decide) ?_
      refine e_iload (k := 44) (xi148 44) rfl ?_
      refine e_iconst (k := 45) (xi148 45) ?_
      refine e_call (k := 46) (v := some (.inl (M 163 (1114 + 8 * w)))) (h1 := (z, P, M)) (c1 := 0) (c2 := 0) (rest := []) (as := [.inr 162, .inl (w), .inl 0]) (xi148 46) (by decide) xm129 rfl ⟨rfl, Nat.le_of_ble_eq_true rfl, by decide⟩ (Or.inr (x_okt (ok_mo hS))) (k_mof hS hT w 0 (1114 + 8 * w) (by omega) (by omega) (by omega)) ?_
      refine e_call (k := 47) (v := some (.inl (x_b ((M 163 (1114 + 8 * w)) = 1 ∨ (M 163 (1114 + 8 * w)) = 2)))) (h1 := (z, P, M)) (c1 := 0) (c2 := 0) (rest := []) (as := [.inl (M 163 (1114 + 8 * w))]) (xi148 47) (by decide) xm138 rfl ⟨rfl, Nat.le_of_ble_eq_true rfl, by decide⟩ (Or.inl rfl) (k_mhasCharge hS hT (M 163 (1114 + 8 * w))  ) ?_
      refine e_b_ne (k := 48) (xi148 48) (fun c2 => ?_) (fun c2 => ?_)
      · skip
        refine e_iconst (k := 51) (xi148 51) ?_
        refine e_zret (k := 52) (xi148 52) (by first | decide | omega) ?_
        exact y_fV (Q := fun v => 0 ≤ v ∧ v ≤ 1) (show v_m_enough w s M = 0 from by rw [v_m_enough, if_neg c0, if_neg c1, if_pos c2]) (by omega)
      · skip
        refine e_iconst (k := 49) (xi148 49) ?_
        refine e_goto (k := 50) (xi148 50) ?_
        refine e_zret (k := 52) (xi148 52) (by first | decide | omega) ?_
        exact y_fV (Q := fun v => 0 ≤ v ∧ v ≤ 1) (show v_m_enough w s M = 1 from by rw [v_m_enough, if_neg c0, if_neg c1, if_neg c2]) (by omega)
def u_m_hired (w x : Int) (M : Int → Int → Int) : Int → Int → Int := (x_up ((x_up ((x_up ((x_up ((u_m_leaves w M)) 163 (1116 + 8 * w) 2)) 163 (1118 + 8 * w) ((-1)))) 163 (1119 + 8 * w) 0)) 163 (1121 + 8 * w) x)
theorem k_m_hired {z : Int} {P M : Int → Int → Int} (hS : x_Sh z P) (hT : y_TC M) (w : Int) (x : Int)  (hw : 0 ≤ w ∧ w < 60) (hx : -1 ≤ x ∧ x ≤ 59) : x_CallR 149 [.inr 162, .inl (w), .inl (x)] (z, P, M) (fun q => q = (none, (z, P, u_m_hired w x M)) ∧ y_TL 5 M (u_m_hired w x M)) := by
  have tl0 : y_TL 5 M M := tl_refl hT
  refine e_body (ls0 := [.inr 162, .inl (w), .inl (x)]) xm149 rfl ?_
  refine e_aload (k := 0) (xi149 0) rfl (by decide) ?_
  refine e_iload (k := 1) (xi149 1) rfl ?_
  refine e_callR (k := 2) (c1 := 0) (c2 := 0) (rest := []) (as := [.inr 162, .inl (w)]) (xi149 2) (by decide) xm137 rfl ⟨rfl, Nat.le_of_ble_eq_true rfl, by decide⟩ (Or.inr (x_okt (ok_mo hS))) (k_m_leaves hS tl0.1 w  (by omega)) ?_
  rintro v_ h_ ⟨e1, tl2⟩
  cases e1
  have tl4 := tl_trans tl0 (tl2)
  have n5 := tl_n5 tl2
  show x_Ev 149 3 [.inr 162, .inl (w), .inl (x)] [] (0, 0) (z, P, (u_m_leaves w M)) _
  refine e_aload (k := 3) (xi149 3) rfl (by decide) ?_
  refine e_iload (k := 4) (xi149 4) rfl ?_
  refine e_iconst (k := 5) (xi149 5) ?_
  refine e_iconst (k := 6) (xi149 6) ?_
  have tl6 : y_TL 5 M (x_up ((u_m_leaves w M)) 163 (1116 + 8 * w) 2) := tl_up tl4 (sl_aW2 (i := 1116 + 8 * w) (w := w) (by omega) (by omega) (by omega)) (nf5 (nf_aW2 (i := 1116 + 8 * w) (w := w) (by omega) (by omega)) (by omega))
  refine e_call (k := 7) (v := none) (h1 := (z, P, (x_up ((u_m_leaves w M)) 163 (1116 + 8 * w) 2))) (c1 := 0) (c2 := 0) (rest := []) (as := [.inr 162, .inl (w), .inl 2, .inl 2]) (xi149 7) (by decide) xm130 rfl ⟨rfl, Nat.le_of_ble_eq_true rfl, by decide⟩ (Or.inr (x_okt (ok_mo hS))) (k_msets hS w 2 2 (1116 + 8 * w) (by omega) (by omega) (by omega)) ?_
  refine e_aload (k := 8) (xi149 8) rfl (by decide) ?_
  refine e_iload (k := 9) (xi149 9) rfl ?_
  refine e_iconst (k := 10) (xi149 10) ?_
  refine e_iconst (k := 11) (xi149 11) ?_
  have tl7 : y_TL 5 M (x_up ((x_up ((u_m_leaves w M)) 163 (1116 + 8 * w) 2)) 163 (1118 + 8 * w) ((-1))) := tl_up tl6 (sl_aW4 (i := 1118 + 8 * w) (w := w) (by omega) (by omega) (by omega)) (nf5 (nf_aW4 (i := 1118 + 8 * w) (w := w) (by omega) (by omega)) (by omega))
  refine e_call (k := 12) (v := none) (h1 := (z, P, (x_up ((x_up ((u_m_leaves w M)) 163 (1116 + 8 * w) 2)) 163 (1118 + 8 * w) ((-1))))) (c1 := 0) (c2 := 0) (rest := []) (as := [.inr 162, .inl (w), .inl 4, .inl ((-1))]) (xi149 12) (by decide) xm130 rfl ⟨rfl, Nat.le_of_ble_eq_true rfl, by decide⟩ (Or.inr (x_okt (ok_mo hS))) (k_msets hS w 4 ((-1)) (1118 + 8 * w) (by omega) (by omega) (by omega)) ?_
  refine e_aload (k := 13) (xi149 13) rfl (by decide) ?_
  refine e_iload (k := 14) (xi149 14) rfl ?_
  refine e_iconst (k := 15) (xi149 15) ?_
  refine e_iconst (k := 16) (xi149 16) ?_
  have tl8 : y_TL 5 M (x_up ((x_up ((x_up ((u_m_leaves w M)) 163 (1116 + 8 * w) 2)) 163 (1118 + 8 * w) ((-1)))) 163 (1119 + 8 * w) 0) := tl_up tl7 (sl_aW5 (i := 1119 + 8 * w) (w := w) (by omega) (by omega)) (nf5 (nf_aW5 (i := 1119 + 8 * w) (w := w) (by omega) (by omega)) (by omega))
  refine e_call (k := 17) (v := none) (h1 := (z, P, (x_up ((x_up ((x_up ((u_m_leaves w M)) 163 (1116 + 8 * w) 2)) 163 (1118 + 8 * w) ((-1)))) 163 (1119 + 8 * w) 0))) (c1 := 0) (c2 := 0) (rest := []) (as := [.inr 162, .inl (w), .inl 5, .inl 0]) (xi149 17) (by decide) xm130 rfl ⟨rfl, Nat.le_of_ble_eq_true rfl, by decide⟩ (Or.inr (x_okt (ok_mo hS))) (k_msets hS w 5 0 (1119 + 8 * w) (by omega) (by omega) (by omega)) ?_
  refine e_aload (k := 18) (xi149 18) rfl (by decide) ?_
  refine e_iload (k := 19) (xi149 19) rfl ?_
  refine e_iconst (k := 20) (xi149 20) ?_
  refine e_iload (k := 21) (xi149 21) rfl ?_
  have tl9 : y_TL 5 M (x_up ((x_up ((x_up ((x_up ((u_m_leaves w M)) 163 (1116 + 8 * w) 2)) 163 (1118 + 8 * w) ((-1)))) 163 (1119 + 8 * w) 0)) 163 (1121 + 8 * w) x) := tl_up tl8 (sl_aW7 (i := 1121 + 8 * w) (w := w) (by omega) (by omega) (by omega)) (nf5 (nf_aW7 (i := 1121 + 8 * w) (w := w) (by omega) (by omega)) (by omega))
  refine e_call (k := 22) (v := none) (h1 := (z, P, (x_up ((x_up ((x_up ((x_up ((u_m_leaves w M)) 163 (1116 + 8 * w) 2)) 163 (1118 + 8 * w) ((-1)))) 163 (1119 + 8 * w) 0)) 163 (1121 + 8 * w) x))) (c1 := 0) (c2 := 0) (rest := []) (as := [.inr 162, .inl (w), .inl 7, .inl (x)]) (xi149 22) (by decide) xm130 rfl ⟨rfl, Nat.le_of_ble_eq_true rfl, by decide⟩ (Or.inr (x_okt (ok_mo hS))) (k_msets hS w 7 x (1121 + 8 * w) (by omega) (by omega) (by omega)) ?_
  refine e_vret (k := 23) (xi149 23) ?_
  exact y_fU (show u_m_hired w x M = (x_up ((x_up ((x_up ((x_up ((u_m_leaves w M)) 163 (1116 + 8 * w) 2)) 163 (1118 + 8 * w) ((-1)))) 163 (1119 + 8 * w) 0)) 163 (1121 + 8 * w) x) from rfl) tl9
def u_m_goes (w l : Int) (M : Int → Int → Int) : Int → Int → Int := if 0 ≤ M 163 (1115 + 8 * w) - v_m_falls (M 163 (1114 + 8 * w)) M * l then (x_up M 163 (1115 + 8 * w) (M 163 (1115 + 8 * w) - v_m_falls (M 163 (1114 + 8 * w)) M * l)) else (x_up M 163 (1115 + 8 * w) 0)
theorem k_m_goes {z : Int} {P M : Int → Int → Int} (hS : x_Sh z P) (hT : y_TC M) (w : Int) (l : Int)  (hw : 0 ≤ w ∧ w < 60) (hl : 0 ≤ l ∧ l ≤ 999) : x_CallR 151 [.inr 162, .inl (w), .inl (l)] (z, P, M) (fun q => q = (none, (z, P, u_m_goes w l M)) ∧ y_TL 5 M (u_m_goes w l M)) := by
  have tl0 : y_TL 5 M M := tl_refl hT
  have k1 := ty_aW1 hT (i := 1115 + 8 * w) (w := w) (by omega) (by omega)
  refine e_body (ls0 := [.inr 162, .inl (w), .inl (l), x_un]) xm151 rfl ?_
  refine e_aload (k := 0) (xi151 0) rfl (by decide) ?_
  refine e_iload (k := 1) (xi151 1) rfl ?_
  refine e_iconst (k := 2) (xi151 2) ?_
  have t1 := ty_aW1 tl0.1 (i := 1115 + 8 * w) (w := w) (by omega) (by omega)
  refine e_call (k := 3) (v := some (.inl (M 163 (1115 + 8 * w)))) (h1 := (z, P, M)) (c1 := 0) (c2 := 0) (rest := []) (as := [.inr 162, .inl (w), .inl 1]) (xi151 3) (by decide) xm129 rfl ⟨rfl, Nat.le_of_ble_eq_true rfl, by decide⟩ (Or.inr (x_okt (ok_mo hS))) (k_mof hS tl0.1 w 1 (1115 + 8 * w) (by omega) (by omega) (by omega)) ?_
  refine e_aload (k := 4) (xi151 4) rfl (by decide) ?_
  refine e_aload (k := 5) (xi151 5) rfl (by decide) ?_
  refine e_iload (k := 6) (xi151 6) rfl ?_
  refine e_iconst (k := 7) (xi151 7) ?_
  have t2 := ty_aW0 tl0.1 (i := 1114 + 8 * w) (w := w) (by omega) (by omega)
  refine e_call (k := 8) (v := some (.inl (M 163 (1114 + 8 * w)))) (h1 := (z, P, M)) (c1 := 0) (c2 := 0) (rest := [.inr 162, .inl (M 163 (1115 + 8 * w))]) (as := [.inr 162, .inl (w), .inl 0]) (xi151 8) (by decide) xm129 rfl ⟨rfl, Nat.le_of_ble_eq_true rfl, by decide⟩ (Or.inr (x_okt (ok_mo hS))) (k_mof hS tl0.1 w 0 (1114 + 8 * w) (by omega) (by omega) (by omega)) ?_
  refine e_callR (k := 9) (c1 := 0) (c2 := 0) (rest := [.inl (M 163 (1115 + 8 * w))]) (as := [.inr 162, .inl (M 163 (1114 + 8 * w))]) (xi151 9) (by decide) xm147 rfl ⟨rfl, Nat.le_of_ble_eq_true rfl, by decide⟩ (Or.inr (x_okt (ok_mo hS))) (k_m_falls hS tl0.1 (M 163 (1114 + 8 * w))  ) ?_
  rintro v_ h_ ⟨e3, q5⟩
  cases e3
  show x_Ev 151 10 [.inr 162, .inl (w), .inl (l), x_un] [.inl (v_m_falls (M 163 (1114 + 8 * w)) M), .inl (M 163 (1115 + 8 * w))] (0, 0) (z, P, M) _
  refine e_iload (k := 10) (xi151 10) rfl ?_
  have m6 := y_mul_in (f := v_m_falls (M 163 (1114 + 8 * w)) M) (l := l) (by omega) (by omega)
  refine e_imul (w := v_m_falls (M 163 (1114 + 8 * w)) M * l) (k := 11) (xi151 11) (x_wn (by omega)) ?_
  refine e_isub (w := M 163 (1115 + 8 * w) - v_m_falls (M 163 (1114 + 8 * w)) M * l) (k := 12) (xi151 12) (x_wn (by omega)) ?_
  refine e_istore (k := 13) (xi151 13) (Nat.le_of_ble_eq_true rfl) ?_
  show x_Ev 151 14 [.inr 162, .inl (w), .inl (l), .inl (M 163 (1115 + 8 * w) - v_m_falls (M 163 (1114 + 8 * w)) M * l)] [] (0, 0) (z, P, M) _
  refine e_aload (k := 14) (xi151 14) rfl (by decide) ?_
  refine e_iload (k := 15) (xi151 15) rfl ?_
  refine e_iconst (k := 16) (xi151 16) ?_
  refine e_iload (k := 17) (xi151 17) rfl ?_
  refine e_z_ge (k := 18) (xi151 18) (fun c0 => ?_) (fun c0 => ?_)
  · skip
    refine e_iload (k := 21) (xi151 21) rfl ?_
    have tl7 : y_TL 5 M (x_up M 163 (1115 + 8 * w) (M 163 (1115 + 8 * w) - v_m_falls (M 163 (1114 + 8 * w)) M * l)) := tl_up tl0 (sl_aW1 (i := 1115 + 8 * w) (w := w) (by omega) (by omega) (by omega)) (nf5 (nf_aW1 (i := 1115 + 8 * w) (w := w) (by omega) (by omega)) (by omega))
    refine e_call (k := 22) (v := none) (h1 := (z, P, (x_up M 163 (1115 + 8 * w) (M 163 (1115 + 8 * w) - v_m_falls (M 163 (1114 + 8 * w)) M * l)))) (c1 := 0) (c2 := 0) (rest := []) (as := [.inr 162, .inl (w), .inl 1, .inl (M 163 (1115 + 8 * w) - v_m_falls (M 163 (1114 + 8 * w)) M * l)]) (xi151 22) (by decide) xm130 rfl ⟨rfl, Nat.le_of_ble_eq_true rfl, by decide⟩ (Or.inr (x_okt (ok_mo hS))) (k_msets hS w 1 (M 163 (1115 + 8 * w) - v_m_falls (M 163 (1114 + 8 * w)) M * l) (1115 + 8 * w) (by omega) (by omega) (by omega)) ?_
    refine e_vret (k := 23) (xi151 23) ?_
    exact y_fU (show u_m_goes w l M = (x_up M 163 (1115 + 8 * w) (M 163 (1115 + 8 * w) - v_m_falls (M 163 (1114 + 8 * w)) M * l)) from by rw [u_m_goes, if_pos c0]) tl7
  · skip
    refine e_iconst (k := 19) (xi151 19) ?_
    refine e_goto (k := 20) (xi151 20) ?_
    have tl8 : y_TL 5 M (x_up M 163 (1115 + 8 * w) 0) := tl_up tl0 (sl_aW1 (i := 1115 + 8 * w) (w := w) (by omega) (by omega) (by omega)) (nf5 (nf_aW1 (i := 1115 + 8 * w) (w := w) (by omega) (by omega)) (by omega))
    refine e_call (k := 22) (v := none) (h1 := (z, P, (x_up M 163 (1115 + 8 * w) 0))) (c1 := 0) (c2 := 0) (rest := []) (as := [.inr 162, .inl (w), .inl 1, .inl 0]) (xi151 22) (by decide) xm130 rfl ⟨rfl, Nat.le_of_ble_eq_true rfl, by decide⟩ (Or.inr (x_okt (ok_mo hS))) (k_msets hS w 1 0 (1115 + 8 * w) (by omega) (by omega) (by omega)) ?_
    refine e_vret (k := 23) (xi151 23) ?_
    exact y_fU (show u_m_goes w l M = (x_up M 163 (1115 + 8 * w) 0) from by rw [u_m_goes, if_neg c0]) tl8
def u_m_streets (w s : Int) (M : Int → Int → Int) : Int → Int → Int := (x_up ((x_up ((x_up M 163 (1116 + 8 * w) 3)) 163 (1117 + 8 * w) s)) 163 (1118 + 8 * w) ((-1)))
theorem k_m_streets {z : Int} {P M : Int → Int → Int} (hS : x_Sh z P) (hT : y_TC M) (w : Int) (s : Int)  (hw : 0 ≤ w ∧ w < 60) (hs : 0 ≤ s ∧ s < 12) : x_CallR 153 [.inr 162, .inl (w), .inl (s)] (z, P, M) (fun q => q = (none, (z, P, u_m_streets w s M)) ∧ y_TL 5 M (u_m_streets w s M)) := by
  have tl0 : y_TL 5 M M := tl_refl hT
  refine e_body (ls0 := [.inr 162, .inl (w), .inl (s)]) xm153 rfl ?_
  refine e_aload (k := 0) (xi153 0) rfl (by decide) ?_
  refine e_iload (k := 1) (xi153 1) rfl ?_
  refine e_iconst (k := 2) (xi153 2) ?_
  refine e_iconst (k := 3) (xi153 3) ?_
  have tl1 : y_TL 5 M (x_up M 163 (1116 + 8 * w) 3) := tl_up tl0 (sl_aW2 (i := 1116 + 8 * w) (w := w) (by omega) (by omega) (by omega)) (nf5 (nf_aW2 (i := 1116 + 8 * w) (w := w) (by omega) (by omega)) (by omega))
  refine e_call (k := 4) (v := none) (h1 := (z, P, (x_up M 163 (1116 + 8 * w) 3))) (c1 := 0) (c2 := 0) (rest := []) (as := [.inr 162, .inl (w), .inl 2, .inl 3]) (xi153 4) (by decide) xm130 rfl ⟨rfl, Nat.le_of_ble_eq_true rfl, by decide⟩ (Or.inr (x_okt (ok_mo hS))) (k_msets hS w 2 3 (1116 + 8 * w) (by omega) (by omega) (by omega)) ?_
  refine e_aload (k := 5) (xi153 5) rfl (by decide) ?_
  refine e_iload (k := 6) (xi153 6) rfl ?_
  refine e_iconst (k := 7) (xi153 7) ?_
  refine e_iload (k := 8) (xi153 8) rfl ?_
  have tl2 : y_TL 5 M (x_up ((x_up M 163 (1116 + 8 * w) 3)) 163 (1117 + 8 * w) s) := tl_up tl1 (sl_aW3 (i := 1117 + 8 * w) (w := w) (by omega) (by omega) (by omega)) (nf5 (nf_aW3 (i := 1117 + 8 * w) (w := w) (by omega) (by omega)) (by omega))
  refine e_call (k := 9) (v := none) (h1 := (z, P, (x_up ((x_up M 163 (1116 + 8 * w) 3)) 163 (1117 + 8 * w) s))) (c1 := 0) (c2 := 0) (rest := []) (as := [.inr 162, .inl (w), .inl 3, .inl (s)]) (xi153 9) (by decide) xm130 rfl ⟨rfl, Nat.le_of_ble_eq_true rfl, by decide⟩ (Or.inr (x_okt (ok_mo hS))) (k_msets hS w 3 s (1117 + 8 * w) (by omega) (by omega) (by omega)) ?_
  refine e_aload (k := 10) (xi153 10) rfl (by decide) ?_
  refine e_iload (k := 11) (xi153 11) rfl ?_
  refine e_iconst (k := 12) (xi153 12) ?_
  refine e_iconst (k := 13) (xi153 13) ?_
  have tl3 : y_TL 5 M (x_up ((x_up ((x_up M 163 (1116 + 8 * w) 3)) 163 (1117 + 8 * w) s)) 163 (1118 + 8 * w) ((-1))) := tl_up tl2 (sl_aW4 (i := 1118 + 8 * w) (w := w) (by omega) (by omega) (by omega)) (nf5 (nf_aW4 (i := 1118 + 8 * w) (w := w) (by omega) (by omega)) (by omega))
  refine e_call (k := 14) (v := none) (h1 := (z, P, (x_up ((x_up ((x_up M 163 (1116 + 8 * w) 3)) 163 (1117 + 8 * w) s)) 163 (1118 + 8 * w) ((-1))))) (c1 := 0) (c2 := 0) (rest := []) (as := [.inr 162, .inl (w), .inl 4, .inl ((-1))]) (xi153 14) (by decide) xm130 rfl ⟨rfl, Nat.le_of_ble_eq_true rfl, by decide⟩ (Or.inr (x_okt (ok_mo hS))) (k_msets hS w 4 ((-1)) (1118 + 8 * w) (by omega) (by omega) (by omega)) ?_
  refine e_vret (k := 15) (xi153 15) ?_
  exact y_fU (show u_m_streets w s M = (x_up ((x_up ((x_up M 163 (1116 + 8 * w) 3)) 163 (1117 + 8 * w) s)) 163 (1118 + 8 * w) ((-1))) from rfl) tl3
def v_m_arrives (w c s : Int) (M : Int → Int → Int) : Int := if 0 ≤ v_m_room (M 163 (1114 + 8 * w)) s M then (if 0 ≤ c then (if 0 ≤ v_m_room 3 s ((u_m_comes w s (v_m_room (M 163 (1114 + 8 * w)) s M) M)) then (if c < 0 then 1 else 1) else 0) else if c < 0 then 1 else 1) else 0
def u_m_arrives (w c s : Int) (M : Int → Int → Int) : Int → Int → Int := if 0 ≤ v_m_room (M 163 (1114 + 8 * w)) s M then (if 0 ≤ c then (if 0 ≤ v_m_room 3 s ((u_m_comes w s (v_m_room (M 163 (1114 + 8 * w)) s M) M)) then (if c < 0 then (u_m_comes w s (v_m_room (M 163 (1114 + 8 * w)) s M) M) else (u_m_comes c s (v_m_room 3 s ((u_m_comes w s (v_m_room (M 163 (1114 + 8 * w)) s M) M))) ((u_m_comes w s (v_m_room (M 163 (1114 + 8 * w)) s M) M)))) else (x_up ((x_up ((x_up ((u_m_leaves w ((u_m_comes w s (v_m_room (M 163 (1114 + 8 * w)) s M) M)))) 163 (1116 + 8 * w) 2)) 163 (1117 + 8 * w) (M 163 (1117 + 8 * w)))) 163 (1118 + 8 * w) ((-1)))) else if c < 0 then (u_m_comes w s (v_m_room (M 163 (1114 + 8 * w)) s M) M) else (u_m_comes c s 0 ((u_m_comes w s (v_m_room (M 163 (1114 + 8 * w)) s M) M)))) else M
theorem k_m_arrives {z : Int} {P M : Int → Int → Int} (hS : x_Sh z P) (hT : y_TC M) (w : Int) (c : Int) (s : Int)  (hw : 0 ≤ w ∧ w < 60) (hc : -1 ≤ c ∧ c ≤ 59) (hs : 0 ≤ s ∧ s < 12) : x_CallR 152 [.inr 162, .inl (w), .inl (c), .inl (s)] (z, P, M) (fun q => q = (some (.inl (v_m_arrives w c s M)), (z, P, u_m_arrives w c s M)) ∧ y_TL 5 M (u_m_arrives w c s M) ∧ (fun v => 0 ≤ v ∧ v ≤ 1) (v_m_arrives w c s M)) := by
  have tl0 : y_TL 5 M M := tl_refl hT
  refine e_body (ls0 := [.inr 162, .inl (w), .inl (c), .inl (s), x_un, x_un, x_un]) xm152 rfl ?_
  refine e_aload (k := 0) (xi152 0) rfl (by decide) ?_
  refine e_aload (k := 1) (xi152 1) rfl (by decide) ?_
  refine e_iload (k := 2) (xi152 2) rfl ?_
  refine e_iconst (k := 3) (xi152 3) ?_
  have t1 := ty_aW0 tl0.1 (i := 1114 + 8 * w) (w := w) (by omega) (by omega)
  refine e_call (k := 4) (v := some (.inl (M 163 (1114 + 8 * w)))) (h1 := (z, P, M)) (c1 := 0) (c2 := 0) (rest := [.inr 162]) (as := [.inr 162, .inl (w), .inl 0]) (xi152 4) (by decide) xm129 rfl ⟨rfl, Nat.le_of_ble_eq_true rfl, by decide⟩ (Or.inr (x_okt (ok_mo hS))) (k_mof hS tl0.1 w 0 (1114 + 8 * w) (by omega) (by omega) (by omega)) ?_
  refine e_iload (k := 5) (xi152 5) rfl ?_
  refine e_callR (k := 6) (c1 := 0) (c2 := 0) (rest := []) (as := [.inr 162, .inl (M 163 (1114 + 8 * w)), .inl (s)]) (xi152 6) (by decide) xm135 rfl ⟨rfl, Nat.le_of_ble_eq_true rfl, by decide⟩ (Or.inr (x_okt (ok_mo hS))) (k_m_room hS tl0.1 (M 163 (1114 + 8 * w)) s  (by omega)) ?_
  rintro v_ h_ ⟨e2, q4⟩
  cases e2
  show x_Ev 152 7 [.inr 162, .inl (w), .inl (c), .inl (s), x_un, x_un, x_un] [.inl (v_m_room (M 163 (1114 + 8 * w)) s M)] (0, 0) (z, P, M) _
  refine e_istore (k := 7) (xi152 7) (Nat.le_of_ble_eq_true rfl) ?_
  show x_Ev 152 8 [.inr 162, .inl (w), .inl (c), .inl (s), .inl (v_m_room (M 163 (1114 + 8 * w)) s M), x_un, x_un] [] (0, 0) (z, P, M) _
  refine e_iload (k := 8) (xi152 8) rfl ?_
  refine e_z_ge (k := 9) (xi152 9) (fun c0 => ?_) (fun c0 => ?_)
  · skip
    refine e_aload (k := 12) (xi152 12) rfl (by decide) ?_
    refine e_iload (k := 13) (xi152 13) rfl ?_
    refine e_iconst (k := 14) (xi152 14) ?_
    have t5 := ty_aW3 tl0.1 (i := 1117 + 8 * w) (w := w) (by omega) (by omega)
    refine e_call (k := 15) (v := some (.inl (M 163 (1117 + 8 * w)))) (h1 := (z, P, M)) (c1 := 0) (c2 := 0) (rest := []) (as := [.inr 162, .inl (w), .inl 3]) (xi152 15) (by decide) xm129 rfl ⟨rfl, Nat.le_of_ble_eq_true rfl, by decide⟩ (Or.inr (x_okt (ok_mo hS))) (k_mof hS tl0.1 w 3 (1117 + 8 * w) (by omega) (by omega) (by omega)) ?_
    refine e_istore (k := 16) (xi152 16) (Nat.le_of_ble_eq_true rfl) ?_
    show x_Ev 152 17 [.inr 162, .inl (w), .inl (c), .inl (s), .inl (v_m_room (M 163 (1114 + 8 * w)) s M), .inl (M 163 (1117 + 8 * w)), x_un] [] (0, 0) (z, P, M) _
    refine e_aload (k := 17) (xi152 17) rfl (by decide) ?_
    refine e_iload (k := 18) (xi152 18) rfl ?_
    refine e_iload (k := 19) (xi152 19) rfl ?_
    refine e_iload (k := 20) (xi152 20) rfl ?_
    refine e_callR (k := 21) (c1 := 0) (c2 := 0) (rest := []) (as := [.inr 162, .inl (w), .inl (s), .inl (v_m_room (M 163 (1114 + 8 * w)) s M)]) (xi152 21) (by decide) xm136 rfl ⟨rfl, Nat.le_of_ble_eq_true rfl, by decide⟩ (Or.inr (x_okt (ok_mo hS))) (k_m_comes hS tl0.1 w s (v_m_room (M 163 (1114 + 8 * w)) s M)  (by omega) (by omega) (by omega)) ?_
    rintro v_ h_ ⟨e6, tl7⟩
    cases e6
    have tl9 := tl_trans tl0 (tl7)
    have n10 := tl_n5 tl7
    show x_Ev 152 22 [.inr 162, .inl (w), .inl (c), .inl (s), .inl (v_m_room (M 163 (1114 + 8 * w)) s M), .inl (M 163 (1117 + 8 * w)), x_un] [] (0, 0) (z, P, (u_m_comes w s (v_m_room (M 163 (1114 + 8 * w)) s M) M)) _
    refine e_iload (k := 22) (xi152 22) rfl ?_
    refine e_z_ge (k := 23) (xi152 23) (fun c1 => ?_) (fun c1 => ?_)
    · skip
      refine e_aload (k := 26) (xi152 26) rfl (by decide) ?_
      refine e_iconst (k := 27) (xi152 27) ?_
      refine e_iload (k := 28) (xi152 28) rfl ?_
      refine e_callR (k := 29) (c1 := 0) (c2 := 0) (rest := []) (as := [.inr 162, .inl 3, .inl (s)]) (xi152 29) (by decide) xm135 rfl ⟨rfl, Nat.le_of_ble_eq_true rfl, by decide⟩ (Or.inr (x_okt (ok_mo hS))) (k_m_room hS tl9.1 3 s  (by omega)) ?_
      rintro v_ h_ ⟨e11, q13⟩
      cases e11
      show x_Ev 152 30 [.inr 162, .inl (w), .inl (c), .inl (s), .inl (v_m_room (M 163 (1114 + 8 * w)) s M), .inl (M 163 (1117 + 8 * w)), x_un] [.inl (v_m_room 3 s ((u_m_comes w s (v_m_room (M 163 (1114 + 8 * w)) s M) M)))] (0, 0) (z, P, (u_m_comes w s (v_m_room (M 163 (1114 + 8 * w)) s M) M)) _
      refine e_istore (k := 30) (xi152 30) (Nat.le_of_ble_eq_true rfl) ?_
      show x_Ev 152 31 [.inr 162, .inl (w), .inl (c), .inl (s), .inl (v_m_room (M 163 (1114 + 8 * w)) s M), .inl (M 163 (1117 + 8 * w)), .inl (v_m_room 3 s ((u_m_comes w s (v_m_room (M 163 (1114 + 8 * w)) s M) M)))] [] (0, 0) (z, P, (u_m_comes w s (v_m_room (M 163 (1114 + 8 * w)) s M) M)) _
      refine e_iload (k := 31) (xi152 31) rfl ?_
      refine e_z_ge (k := 32) (xi152 32) (fun c2 => ?_) (fun c2 => ?_)
      · skip
        refine e_iload (k := 53) (xi152 53) rfl ?_
        refine e_z_lt (k := 54) (xi152 54) (fun c3 => ?_) (fun c3 => ?_)
        · skip
          refine e_iconst (k := 60) (xi152 60) ?_
          refine e_zret (k := 61) (xi152 61) (by first | decide | omega) ?_
          exact y_fW (Q := fun v => 0 ≤ v ∧ v ≤ 1) (show v_m_arrives w c s M = 1 from by rw [v_m_arrives, if_pos c0, if_pos c1, if_pos c2, if_pos c3]) (show u_m_arrives w c s M = (u_m_comes w s (v_m_room (M 163 (1114 + 8 * w)) s M) M) from by rw [u_m_arrives, if_pos c0, if_pos c1, if_pos c2, if_pos c3]) tl9 (by omega)
        · skip
          refine e_aload (k := 55) (xi152 55) rfl (by decide) ?_
          refine e_iload (k := 56) (xi152 56) rfl ?_
          refine e_iload (k := 57) (xi152 57) rfl ?_
          refine e_iload (k := 58) (xi152 58) rfl ?_
          refine e_callR (k := 59) (c1 := 0) (c2 := 0) (rest := []) (as := [.inr 162, .inl (c), .inl (s), .inl (v_m_room 3 s ((u_m_comes w s (v_m_room (M 163 (1114 + 8 * w)) s M) M)))]) (xi152 59) (by decide) xm136 rfl ⟨rfl, Nat.le_of_ble_eq_true rfl, by decide⟩ (Or.inr (x_okt (ok_mo hS))) (k_m_comes hS tl9.1 c s (v_m_room 3 s ((u_m_comes w s (v_m_room (M 163 (1114 + 8 * w)) s M) M)))  (by omega) (by omega) (by omega)) ?_
          rintro v_ h_ ⟨e14, tl15⟩
          cases e14
          have tl17 := tl_trans tl9 (tl15)
          have n18 := tl_n5 tl15
          show x_Ev 152 60 [.inr 162, .inl (w), .inl (c), .inl (s), .inl (v_m_room (M 163 (1114 + 8 * w)) s M), .inl (M 163 (1117 + 8 * w)), .inl (v_m_room 3 s ((u_m_comes w s (v_m_room (M 163 (1114 + 8 * w)) s M) M)))] [] (0, 0) (z, P, (u_m_comes c s (v_m_room 3 s ((u_m_comes w s (v_m_room (M 163 (1114 + 8 * w)) s M) M))) ((u_m_comes w s (v_m_room (M 163 (1114 + 8 * w)) s M) M)))) _
          refine e_iconst (k := 60) (xi152 60) ?_
          refine e_zret (k := 61) (xi152 61) (by first | decide | omega) ?_
          exact y_fW (Q := fun v => 0 ≤ v ∧ v ≤ 1) (show v_m_arrives w c s M = 1 from by rw [v_m_arrives, if_pos c0, if_pos c1, if_pos c2, if_neg c3]) (show u_m_arrives w c s M = (u_m_comes c s (v_m_room 3 s ((u_m_comes w s (v_m_room (M 163 (1114 + 8 * w)) s M) M))) ((u_m_comes w s (v_m_room (M 163 (1114 + 8 * w)) s M) M))) from by rw [u_m_arrives, if_pos c0, if_pos c1, if_pos c2, if_neg c3]) tl17 (by omega)
      · skip
        refine e_aload (k := 33) (xi152 33) rfl (by decide) ?_
        refine e_iload (k := 34) (xi152 34) rfl ?_
        refine e_callR (k := 35) (c1 := 0) (c2 := 0) (rest := []) (as := [.inr 162, .inl (w)]) (xi152 35) (by decide) xm137 rfl ⟨rfl, Nat.le_of_ble_eq_true rfl, by decide⟩ (Or.inr (x_okt (ok_mo hS))) (k_m_leaves hS tl9.1 w  (by omega)) ?_
        rintro v_ h_ ⟨e19, tl20⟩
        cases e19
        have tl22 := tl_trans tl9 (tl20)
        have n23 := tl_n5 tl20
        show x_Ev 152 36 [.inr 162, .inl (w), .inl (c), .inl (s), .inl (v_m_room (M 163 (1114 + 8 * w)) s M), .inl (M 163 (1117 + 8 * w)), .inl (v_m_room 3 s ((u_m_comes w s (v_m_room (M 163 (1114 + 8 * w)) s M) M)))] [] (0, 0) (z, P, (u_m_leaves w ((u_m_comes w s (v_m_room (M 163 (1114 + 8 * w)) s M) M)))) _
        refine e_aload (k := 36) (xi152 36) rfl (by decide) ?_
        refine e_iload (k := 37) (xi152 37) rfl ?_
        refine e_iconst (k := 38) (xi152 38) ?_
        refine e_iconst (k := 39) (xi152 39) ?_
        have tl24 : y_TL 5 M (x_up ((u_m_leaves w ((u_m_comes w s (v_m_room (M 163 (1114 + 8 * w)) s M) M)))) 163 (1116 + 8 * w) 2) := tl_up tl22 (sl_aW2 (i := 1116 + 8 * w) (w := w) (by omega) (by omega) (by omega)) (nf5 (nf_aW2 (i := 1116 + 8 * w) (w := w) (by omega) (by omega)) (by omega))
        refine e_call (k := 40) (v := none) (h1 := (z, P, (x_up ((u_m_leaves w ((u_m_comes w s (v_m_room (M 163 (1114 + 8 * w)) s M) M)))) 163 (1116 + 8 * w) 2))) (c1 := 0) (c2 := 0) (rest := []) (as := [.inr 162, .inl (w), .inl 2, .inl 2]) (xi152 40) (by decide) xm130 rfl ⟨rfl, Nat.le_of_ble_eq_true rfl, by decide⟩ (Or.inr (x_okt (ok_mo hS))) (k_msets hS w 2 2 (1116 + 8 * w) (by omega) (by omega) (by omega)) ?_
        refine e_aload (k := 41) (xi152 41) rfl (by decide) ?_
        refine e_iload (k := 42) (xi152 42) rfl ?_
        refine e_iconst (k := 43) (xi152 43) ?_
        refine e_iload (k := 44) (xi152 44) rfl ?_
        have tl25 : y_TL 5 M (x_up ((x_up ((u_m_leaves w ((u_m_comes w s (v_m_room (M 163 (1114 + 8 * w)) s M) M)))) 163 (1116 + 8 * w) 2)) 163 (1117 + 8 * w) (M 163 (1117 + 8 * w))) := tl_up tl24 (sl_aW3 (i := 1117 + 8 * w) (w := w) (by omega) (by omega) (by omega)) (nf5 (nf_aW3 (i := 1117 + 8 * w) (w := w) (by omega) (by omega)) (by omega))
        refine e_call (k := 45) (v := none) (h1 := (z, P, (x_up ((x_up ((u_m_leaves w ((u_m_comes w s (v_m_room (M 163 (1114 + 8 * w)) s M) M)))) 163 (1116 + 8 * w) 2)) 163 (1117 + 8 * w) (M 163 (1117 + 8 * w))))) (c1 := 0) (c2 := 0) (rest := []) (as := [.inr 162, .inl (w), .inl 3, .inl (M 163 (1117 + 8 * w))]) (xi152 45) (by decide) xm130 rfl ⟨rfl, Nat.le_of_ble_eq_true rfl, by decide⟩ (Or.inr (x_okt (ok_mo hS))) (k_msets hS w 3 (M 163 (1117 + 8 * w)) (1117 + 8 * w) (by omega) (by omega) (by omega)) ?_
        refine e_aload (k := 46) (xi152 46) rfl (by decide) ?_
        refine e_iload (k := 47) (xi152 47) rfl ?_
        refine e_iconst (k := 48) (xi152 48) ?_
        refine e_iconst (k := 49) (xi152 49) ?_
        have tl26 : y_TL 5 M (x_up ((x_up ((x_up ((u_m_leaves w ((u_m_comes w s (v_m_room (M 163 (1114 + 8 * w)) s M) M)))) 163 (1116 + 8 * w) 2)) 163 (1117 + 8 * w) (M 163 (1117 + 8 * w)))) 163 (1118 + 8 * w) ((-1))) := tl_up tl25 (sl_aW4 (i := 1118 + 8 * w) (w := w) (by omega) (by omega) (by omega)) (nf5 (nf_aW4 (i := 1118 + 8 * w) (w := w) (by omega) (by omega)) (by omega))
        refine e_call (k := 50) (v := none) (h1 := (z, P, (x_up ((x_up ((x_up ((u_m_leaves w ((u_m_comes w s (v_m_room (M 163 (1114 + 8 * w)) s M) M)))) 163 (1116 + 8 * w) 2)) 163 (1117 + 8 * w) (M 163 (1117 + 8 * w)))) 163 (1118 + 8 * w) ((-1))))) (c1 := 0) (c2 := 0) (rest := []) (as := [.inr 162, .inl (w), .inl 4, .inl ((-1))]) (xi152 50) (by decide) xm130 rfl ⟨rfl, Nat.le_of_ble_eq_true rfl, by decide⟩ (Or.inr (x_okt (ok_mo hS))) (k_msets hS w 4 ((-1)) (1118 + 8 * w) (by omega) (by omega) (by omega)) ?_
        refine e_iconst (k := 51) (xi152 51) ?_
        refine e_zret (k := 52) (xi152 52) (by first | decide | omega) ?_
        exact y_fW (Q := fun v => 0 ≤ v ∧ v ≤ 1) (show v_m_arrives w c s M = 0 from by rw [v_m_arrives, if_pos c0, if_pos c1, if_neg c2]) (show u_m_arrives w c s M = (x_up ((x_up ((x_up ((u_m_leaves w ((u_m_comes w s (v_m_room (M 163 (1114 + 8 * w)) s M) M)))) 163 (1116 + 8 * w) 2)) 163 (1117 + 8 * w) (M 163 (1117 + 8 * w)))) 163 (1118 + 8 * w) ((-1))) from by rw [u_m_arrives, if_pos c0, if_pos c1, if_neg c2]) tl26 (by omega)
    · skip
      refine e_iconst (k := 24) (xi152 24) ?_
      refine e_goto (k := 25) (xi152 25) ?_
      refine e_istore (k := 30) (xi152 30) (Nat.le_of_ble_eq_true rfl) ?_
      show x_Ev 152 31 [.inr 162, .inl (w), .inl (c), .inl (s), .inl (v_m_room (M 163 (1114 + 8 * w)) s M), .inl (M 163 (1117 + 8 * w)), .inl 0] [] (0, 0) (z, P, (u_m_comes w s (v_m_room (M 163 (1114 + 8 * w)) s M) M)) _
      refine e_iload (k := 31) (xi152 31) rfl ?_
      refine e_z_ge (k := 32) (xi152 32) (fun c4 => ?_) (fun q => absurd (by decide) q)
      refine e_iload (k := 53) (xi152 53) rfl ?_
      refine e_z_lt (k := 54) (xi152 54) (fun c5 => ?_) (fun c5 => ?_)
      · skip
        refine e_iconst (k := 60) (xi152 60) ?_
        refine e_zret (k := 61) (xi152 61) (by first | decide | omega) ?_
        exact y_fW (Q := fun v => 0 ≤ v ∧ v ≤ 1) (show v_m_arrives w c s M = 1 from by rw [v_m_arrives, if_pos c0, if_neg c1, if_pos c5]) (show u_m_arrives w c s M = (u_m_comes w s (v_m_room (M 163 (1114 + 8 * w)) s M) M) from by rw [u_m_arrives, if_pos c0, if_neg c1, if_pos c5]) tl9 (by omega)
      · skip
        refine e_aload (k := 55) (xi152 55) rfl (by decide) ?_
        refine e_iload (k := 56) (xi152 56) rfl ?_
        refine e_iload (k := 57) (xi152 57) rfl ?_
        refine e_iload (k := 58) (xi152 58) rfl ?_
        refine e_callR (k := 59) (c1 := 0) (c2 := 0) (rest := []) (as := [.inr 162, .inl (c), .inl (s), .inl 0]) (xi152 59) (by decide) xm136 rfl ⟨rfl, Nat.le_of_ble_eq_true rfl, by decide⟩ (Or.inr (x_okt (ok_mo hS))) (k_m_comes hS tl9.1 c s 0  (by omega) (by omega) (by omega)) ?_
        rintro v_ h_ ⟨e27, tl28⟩
        cases e27
        have tl30 := tl_trans tl9 (tl28)
        have n31 := tl_n5 tl28
        show x_Ev 152 60 [.inr 162, .inl (w), .inl (c), .inl (s), .inl (v_m_room (M 163 (1114 + 8 * w)) s M), .inl (M 163 (1117 + 8 * w)), .inl 0] [] (0, 0) (z, P, (u_m_comes c s 0 ((u_m_comes w s (v_m_room (M 163 (1114 + 8 * w)) s M) M)))) _
        refine e_iconst (k := 60) (xi152 60) ?_
        refine e_zret (k := 61) (xi152 61) (by first | decide | omega) ?_
        exact y_fW (Q := fun v => 0 ≤ v ∧ v ≤ 1) (show v_m_arrives w c s M = 1 from by rw [v_m_arrives, if_pos c0, if_neg c1, if_neg c5]) (show u_m_arrives w c s M = (u_m_comes c s 0 ((u_m_comes w s (v_m_room (M 163 (1114 + 8 * w)) s M) M))) from by rw [u_m_arrives, if_pos c0, if_neg c1, if_neg c5]) tl30 (by omega)
  · skip
    refine e_iconst (k := 10) (xi152 10) ?_
    refine e_zret (k := 11) (xi152 11) (by first | decide | omega) ?_
    exact y_fW (Q := fun v => 0 ≤ v ∧ v ≤ 1) (show v_m_arrives w c s M = 0 from by rw [v_m_arrives, if_neg c0]) (show u_m_arrives w c s M = M from by rw [u_m_arrives, if_neg c0]) tl0 (by omega)
